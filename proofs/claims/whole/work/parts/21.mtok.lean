/-! the model's reading -/
def SB (B : BY) (n : Nat) (M : Mem) : Prop := M 440 2 = (n : Int) ∧ n ≤ 600 ∧ ∀ i, i < n → M 441 i = B i
def TM (B : BY) (n : Nat) (M : Mem) (st : ST) : Prop := SB B n M ∧ ∃ a : Nat, M 440 4 = (a : Int) ∧ a ≤ n ∧ match st with
  | .inl p => M 440 5 = 0 ∧ sk B n a = p
  | .inr f => M 440 5 = f.1 ∧ M 440 6 = f.2 ∧ f.1 ≠ 0
def AtM (M : Mem) : ST → Prop
  | .inl p => M 440 4 = (p : Int)
  | .inr _ => True
def FrM (M M' : Mem) : Prop := ∀ a k, ¬ (a = 440 ∧ 4 ≤ k ∧ k ≤ 6) → M' a k = M a k
theorem FrM.rf {M : Mem} : FrM M M := fun _ _ _ => rfl
theorem FrM.tr {M M1 M2 : Mem} (h1 : FrM M M1) (h2 : FrM M1 M2) : FrM M M2 := fun a k h => (h2 a k h).trans (h1 a k h)
theorem FrM.up {M M1 : Mem} {k : Nat} {v : Int} (h1 : FrM M M1) (hk : 4 ≤ k ∧ k ≤ 6) : FrM M (mset M1 440 k v) := by
  intro a' k' h
  unfold mset
  rw [if_neg (by rintro ⟨rfl, rfl⟩; exact h ⟨rfl, hk⟩)]
  exact h1 a' k' h
theorem FrM.fx {M M' : Mem} (h : FrM M M') (hX : FX M) : FX M' := hX.fr (fun a k hk => h a k (by
  rintro ⟨rfl, h1, h2⟩
  have : ∀ k, k < 7 → fxT 440 k = 0 := by decide +kernel
  have := this k (by omega)
  omega))
/-- only at has changed -/
def FrB (M M' : Mem) : Prop := ∀ a k, ¬ (a = 440 ∧ k = 4) → M' a k = M a k
theorem FrB.up {M M1 : Mem} {v : Int} (h1 : FrB M M1) : FrB M (mset M1 440 4 v) := by
  intro a' k' h
  unfold mset
  rw [if_neg h]
  exact h1 a' k' h
theorem FrB.fr {M M' : Mem} (h : FrB M M') : FrM M M' := fun a k hk => h a k (fun q => hk ⟨q.1, by omega⟩)
theorem SB.fr {B : BY} {n : Nat} {M M' : Mem} (h : SB B n M) (hf : FrM M M') : SB B n M' :=
  ⟨(hf 440 2 (by decide)).trans h.1, h.2.1, fun i hi => (hf 441 i (by omega)).trans (h.2.2 i hi)⟩
def bt (B : BY) (n : Nat) (k : Int) : Int := if (n : Int) ≤ k then -1 else B k.toNat
theorem bt_lt {B : BY} {n p : Nat} (h : p < n) : bt B n (p : Int) = B p := by
  unfold bt; rw [if_neg (by omega), Int.toNat_natCast]
theorem bt_ge {B : BY} {n p : Nat} (h : n ≤ p) : bt B n (p : Int) = -1 := by
  unfold bt; rw [if_pos (by omega)]
theorem u153_0 {d : Nat} {l0 : Int} {l1 : Int} {l2 : Int} {M : Mem} {K : KK} {Q : RR → Mem → KK → Prop} (hK : K.1 = 923) (hX : FX M)  (h : (l0 < l1 → Q (.inl (some (vI (0 : Int)))) M K) ∧ (¬ (l0 < l1) → (l2 < l0 → Q (.inl (some (vI (0 : Int)))) M K) ∧ (¬ (l2 < l0) → Q (.inl (some (vI (1 : Int)))) M K))) : Wp d 153 0 [vI l0, vI l1, vI l2] [] M K Q := by
  refine r_iload_n c153_0 rfl ?_
  refine r_iload_n c153_1 rfl ?_
  refine r_icmpP (P := l0 < l1) c153_2 rfl (fun hc1 => ?_) (fun hc1 => ?_)
  · replace h := h.1 hc1
    refine r_iconst c153_14 ?_
    exact r_iret c153_15 (by decide) h
  · replace h := h.2 hc1
    refine r_iload_n c153_5 rfl ?_
    refine r_iload_n c153_6 rfl ?_
    refine r_icmpP (P := l2 < l0) c153_7 rfl (fun hc2 => ?_) (fun hc2 => ?_)
    · replace h := h.1 hc2
      refine r_iconst c153_14 ?_
      exact r_iret c153_15 (by decide) h
    · replace h := h.2 hc2
      refine r_iconst c153_10 ?_
      refine r_goto c153_11 ?_
      exact r_iret c153_15 (by decide) h
theorem u154_0 {d : Nat} {l0 : Int} {l1 : Int} {M : Mem} {K : KK} {Q : RR → Mem → KK → Prop} (hK : K.1 = 923) (hX : FX M)  (h : (l1 ≤ l0 → Q (.inl (some (vI l1))) M K) ∧ (¬ (l1 ≤ l0) → Q (.inl (some (vI l0))) M K)) : Wp d 154 0 [vI l0, vI l1] [] M K Q := by
  refine r_iload_n c154_0 rfl ?_
  refine r_iload_n c154_1 rfl ?_
  refine r_icmpP (P := l1 ≤ l0) c154_2 rfl (fun hc1 => ?_) (fun hc1 => ?_)
  · replace h := h.1 hc1
    refine r_iload_n c154_9 rfl ?_
    exact r_iret c154_10 (Or.inl rfl) h
  · replace h := h.2 hc1
    refine r_iload_n c154_5 rfl ?_
    refine r_goto c154_6 ?_
    exact r_iret c154_10 (Or.inl rfl) h
theorem u155_0 {d : Nat} {l0 : Int} {l1 : Int} {M : Mem} {K : KK} {Q : RR → Mem → KK → Prop} (hK : K.1 = 923) (hX : FX M)  (h : (l0 ≤ l1 → Q (.inl (some (vI l1))) M K) ∧ (¬ (l0 ≤ l1) → Q (.inl (some (vI l0))) M K)) : Wp d 155 0 [vI l0, vI l1] [] M K Q := by
  refine r_iload_n c155_0 rfl ?_
  refine r_iload_n c155_1 rfl ?_
  refine r_icmpP (P := l0 ≤ l1) c155_2 rfl (fun hc1 => ?_) (fun hc1 => ?_)
  · replace h := h.1 hc1
    refine r_iload_n c155_9 rfl ?_
    exact r_iret c155_10 (Or.inl rfl) h
  · replace h := h.2 hc1
    refine r_iload_n c155_5 rfl ?_
    refine r_goto c155_6 ?_
    exact r_iret c155_10 (Or.inl rfl) h
theorem u156_0 {d : Nat} {l0 : Int} {l1 : Int} {M : Mem} {K : KK} {Q : RR → Mem → KK → Prop} (hK : K.1 = 923) (hX : FX M)  (h : (¬ (jand (jshr l0 l1) (1 : Int)) = (1 : Int) → Q (.inl (some (vI (0 : Int)))) M K) ∧ ((jand (jshr l0 l1) (1 : Int)) = (1 : Int) → Q (.inl (some (vI (1 : Int)))) M K)) : Wp d 156 0 [vI l0, vI l1] [] M K Q := by
  refine r_iload_n c156_0 rfl ?_
  refine r_iload_n c156_1 rfl ?_
  refine r_ishr c156_2 ?_
  refine r_iconst c156_3 ?_
  refine r_iand c156_4 ?_
  refine r_iconst c156_5 ?_
  refine r_icmpP (P := ¬ (jand (jshr l0 l1) (1 : Int)) = (1 : Int)) c156_6 rfl (fun hc1 => ?_) (fun hc1 => ?_)
  · replace h := h.1 hc1
    refine r_iconst c156_13 ?_
    exact r_iret c156_14 (by decide) h
  · have hc2 := Classical.not_not.mp hc1
    replace h := h.2 hc2
    refine r_iconst c156_9 ?_
    refine r_goto c156_10 ?_
    exact r_iret c156_14 (by decide) h
section MS
variable {d : Nat} {M : Mem} {K : KK} {Q : RR → Mem → KK → Prop}
theorem g153 {v lo hi : Int} (hK : K.1 = 923) (hX : FX M) (k : Q (.inl (some (vI (bI (lo ≤ v ∧ v ≤ hi))))) M K) : Wm d 153 [vI v, vI lo, vI hi] M K Q := by
  refine u153_0 hK hX ⟨fun h => ?_, fun h => ⟨fun h2 => ?_, fun h2 => ?_⟩⟩
  · rwa [bI_f (by omega)] at k
  · rwa [bI_f (by omega)] at k
  · rwa [bI_t (by omega)] at k
theorem g154 {a b : Int} (hK : K.1 = 923) (hX : FX M) (k : Q (.inl (some (vI (min a b)))) M K) : Wm d 154 [vI a, vI b] M K Q := by
  refine u154_0 hK hX ⟨fun h => ?_, fun h => ?_⟩
  · rwa [show min a b = b from by omega] at k
  · rwa [show min a b = a from by omega] at k
theorem g155 {a b : Int} (hK : K.1 = 923) (hX : FX M) (k : Q (.inl (some (vI (max a b)))) M K) : Wm d 155 [vI a, vI b] M K Q := by
  refine u155_0 hK hX ⟨fun h => ?_, fun h => ?_⟩
  · rwa [show max a b = b from by omega] at k
  · rwa [show max a b = a from by omega] at k
theorem g156 {a b : Int} (hK : K.1 = 923) (hX : FX M) (k : Q (.inl (some (vI (bI (jand (jshr a b) 1 = 1))))) M K) : Wm d 156 [vI a, vI b] M K Q := by
  refine u156_0 hK hX ⟨fun h => ?_, fun h => ?_⟩
  · rwa [bI_f h] at k
  · rwa [bI_t h] at k
end MS
theorem u158_0 {d : Nat} {l1 : Int} {M : Mem} {K : KK} {Q : RR → Mem → KK → Prop} (hK : K.1 = 923) (hX : FX M)  (h : (l1 < (M 440 2) → (0 ≤ l1 ∧ l1 < (600 : Int)) ∧ Q (.inl (some (vI (M 441 (Int.toNat l1))))) M K) ∧ (¬ (l1 < (M 440 2)) → Q (.inl (some (vI (-1 : Int)))) M K)) : Wp d 158 0 [vR 440, vI l1] [] M K Q := by
  refine r_iload_n c158_0 rfl ?_
  refine r_aload_n c158_1 rfl ?_
  refine r_getIe c158_2 (oK hK o440) rfl ?_
  refine r_icmpP (P := l1 < (M 440 2)) c158_5 rfl (fun hc1 => ?_) (fun hc1 => ?_)
  · replace h := h.1 hc1
    refine r_aload_n c158_12 rfl ?_
    refine r_getR c158_13 (oK hK o440) (FX.get (b := 441) hX (by decide) (by decide +kernel) (by decide)) (by decide) ?_
    refine r_iload_n c158_16 rfl ?_
    obtain ⟨s2, h⟩ := h
    refine r_iae c158_17 (oK hK o441) (bd l441 s2) rfl ?_
    exact r_iret c158_18 (Or.inl rfl) h
  · replace h := h.2 hc1
    refine r_iconst c158_8 ?_
    refine r_goto c158_9 ?_
    exact r_iret c158_18 (Or.inl rfl) h
theorem u160_0 {d : Nat} {l1 : Int} {l2 : Int} {M : Mem} {K : KK} {Q : RR → Mem → KK → Prop} (hK : K.1 = 923) (hX : FX M)  (h : (¬ (M 440 5) = (0 : Int) → Q (.inl none) M K) ∧ ((M 440 5) = (0 : Int) → Q (.inl none) (mset (mset M 440 5 l1) 440 6 l2) K)) : Wp d 160 0 [vR 440, vI l1, vI l2] [] M K Q := by
  refine r_aload_n c160_0 rfl ?_
  refine r_getIe c160_1 (oK hK o440) rfl ?_
  refine r_ifP (P := ¬ (M 440 5) = (0 : Int)) c160_4 rfl (fun hc1 => ?_) (fun hc1 => ?_)
  · replace h := h.1 hc1
    exact r_ret c160_17 h
  · have hc2 := Classical.not_not.mp hc1
    replace h := h.2 hc2
    refine r_aload_n c160_7 rfl ?_
    refine r_iload_n c160_8 rfl ?_
    refine r_putI c160_9 (oK hK o440) ?_
    have x3 := FX.set (v := l1) (a := 440) (k := 5) hX (by decide +kernel)
    refine r_aload_n c160_12 rfl ?_
    refine r_iload_n c160_13 rfl ?_
    refine r_putI c160_14 (oK hK o440) ?_
    have x4 := FX.set (v := l2) (a := 440) (k := 6) x3 (by decide +kernel)
    exact r_ret c160_17 h
theorem u161_0 {d : Nat} {l0 : Int} {M : Mem} {K : KK} {Q : RR → Mem → KK → Prop} (hK : K.1 = 923) (hX : FX M)  (h : (l0 < (48 : Int) → Q (.inl (some (vI (0 : Int)))) M K) ∧ (¬ (l0 < (48 : Int)) → ((57 : Int) < l0 → Q (.inl (some (vI (0 : Int)))) M K) ∧ (¬ ((57 : Int) < l0) → Q (.inl (some (vI (1 : Int)))) M K))) : Wp d 161 0 [vI l0] [] M K Q := by
  refine r_iload_n c161_0 rfl ?_
  refine r_bipush c161_1 ?_
  refine r_icmpP (P := l0 < (48 : Int)) c161_3 rfl (fun hc1 => ?_) (fun hc1 => ?_)
  · replace h := h.1 hc1
    refine r_iconst c161_16 ?_
    exact r_iret c161_17 (by decide) h
  · replace h := h.2 hc1
    refine r_iload_n c161_6 rfl ?_
    refine r_bipush c161_7 ?_
    refine r_icmpP (P := (57 : Int) < l0) c161_9 rfl (fun hc2 => ?_) (fun hc2 => ?_)
    · replace h := h.1 hc2
      refine r_iconst c161_16 ?_
      exact r_iret c161_17 (by decide) h
    · replace h := h.2 hc2
      refine r_iconst c161_12 ?_
      refine r_goto c161_13 ?_
      exact r_iret c161_17 (by decide) h
theorem u162_0 {d : Nat} {l0 : Int} {M : Mem} {K : KK} {Q : RR → Mem → KK → Prop} (hK : K.1 = 923) (hX : FX M)  (h : (l0 < (97 : Int) → Q (.inl (some (vI (0 : Int)))) M K) ∧ (¬ (l0 < (97 : Int)) → ((122 : Int) < l0 → Q (.inl (some (vI (0 : Int)))) M K) ∧ (¬ ((122 : Int) < l0) → Q (.inl (some (vI (1 : Int)))) M K))) : Wp d 162 0 [vI l0] [] M K Q := by
  refine r_iload_n c162_0 rfl ?_
  refine r_bipush c162_1 ?_
  refine r_icmpP (P := l0 < (97 : Int)) c162_3 rfl (fun hc1 => ?_) (fun hc1 => ?_)
  · replace h := h.1 hc1
    refine r_iconst c162_16 ?_
    exact r_iret c162_17 (by decide) h
  · replace h := h.2 hc1
    refine r_iload_n c162_6 rfl ?_
    refine r_bipush c162_7 ?_
    refine r_icmpP (P := (122 : Int) < l0) c162_9 rfl (fun hc2 => ?_) (fun hc2 => ?_)
    · replace h := h.1 hc2
      refine r_iconst c162_16 ?_
      exact r_iret c162_17 (by decide) h
    · replace h := h.2 hc2
      refine r_iconst c162_12 ?_
      refine r_goto c162_13 ?_
      exact r_iret c162_17 (by decide) h
theorem u165_0 {d : Nat} {l0 : Int} {l1 : Int} {l2 : Int} {l3 : Int} {l4 : Int} {l5 : Int} {M : Mem} {K : KK} {Q : RR → Mem → KK → Prop} (hK : K.1 = 923) (hX : FX M)  (h : (¬ l3 = (0 : Int) → Wp d 165 29 [vI l0, vI l1, vI l2, vI l3, vI l4, vI l5, vI (w32 ((w32 ((27 : Int) * (w32 ((w32 ((27 : Int) * l0)) + l1)))) + l2))] [vI (w32 ((w32 ((27 : Int) * (w32 ((w32 ((27 : Int) * (w32 ((w32 ((27 : Int) * l0)) + l1)))) + l2)))) + l3))] M K Q) ∧ (l3 = (0 : Int) → Wp d 165 29 [vI l0, vI l1, vI l2, vI l3, vI l4, vI l5, vI (w32 ((w32 ((27 : Int) * (w32 ((w32 ((27 : Int) * l0)) + l1)))) + l2))] [vI (w32 ((w32 ((27 : Int) * (w32 ((w32 ((27 : Int) * l0)) + l1)))) + l2))] M K Q)) : Wp d 165 0 [vI l0, vI l1, vI l2, vI l3, vI l4, vI l5, vU] [] M K Q := by
  refine r_bipush c165_0 ?_
  refine r_bipush c165_2 ?_
  refine r_iload_n c165_4 rfl ?_
  refine r_imul c165_5 ?_
  refine r_iload_n c165_6 rfl ?_
  refine r_iadd c165_7 ?_
  refine r_imul c165_8 ?_
  refine r_iload_n c165_9 rfl ?_
  refine r_iadd c165_10 ?_
  refine r_istore c165_11 (Nat.le_of_ble_eq_true rfl) ?_
  refine r_iload_n c165_13 rfl ?_
  refine r_ifP (P := ¬ l3 = (0 : Int)) c165_14 rfl (fun hc1 => ?_) (fun hc1 => ?_)
  · replace h := h.1 hc1
    refine r_bipush c165_22 ?_
    refine r_iload c165_24 rfl ?_
    refine r_imul c165_26 ?_
    refine r_iload_n c165_27 rfl ?_
    refine r_iadd c165_28 ?_
    exact h
  · have hc2 := Classical.not_not.mp hc1
    replace h := h.2 hc2
    refine r_iload c165_17 rfl ?_
    refine r_goto c165_19 ?_
    exact h
theorem u165_29 {d : Nat} {l0 : Int} {l1 : Int} {l2 : Int} {l3 : Int} {l4 : Int} {l5 : Int} {l6 : Int} {t0 : Int} {M : Mem} {K : KK} {Q : RR → Mem → KK → Prop} (hK : K.1 = 923) (hX : FX M)  (h : (¬ l4 = (0 : Int) → (¬ l5 = (0 : Int) → Q (.inl (some (vI (w32 ((w32 ((27 : Int) * (w32 ((w32 ((27 : Int) * t0)) + l4)))) + l5))))) M K) ∧ (l5 = (0 : Int) → Q (.inl (some (vI (w32 ((w32 ((27 : Int) * t0)) + l4))))) M K)) ∧ (l4 = (0 : Int) → (¬ l5 = (0 : Int) → Q (.inl (some (vI (w32 ((w32 ((27 : Int) * t0)) + l5))))) M K) ∧ (l5 = (0 : Int) → Q (.inl (some (vI t0))) M K))) : Wp d 165 29 [vI l0, vI l1, vI l2, vI l3, vI l4, vI l5, vI l6] [vI t0] M K Q := by
  refine r_istore c165_29 (Nat.le_of_ble_eq_true rfl) ?_
  refine r_iload c165_31 rfl ?_
  refine r_ifP (P := ¬ l4 = (0 : Int)) c165_33 rfl (fun hc1 => ?_) (fun hc1 => ?_)
  · replace h := h.1 hc1
    refine r_bipush c165_41 ?_
    refine r_iload c165_43 rfl ?_
    refine r_imul c165_45 ?_
    refine r_iload c165_46 rfl ?_
    refine r_iadd c165_48 ?_
    refine r_istore c165_49 (Nat.le_of_ble_eq_true rfl) ?_
    refine r_iload c165_51 rfl ?_
    refine r_ifP (P := ¬ l5 = (0 : Int)) c165_53 rfl (fun hc3 => ?_) (fun hc3 => ?_)
    · replace h := h.1 hc3
      refine r_bipush c165_61 ?_
      refine r_iload c165_63 rfl ?_
      refine r_imul c165_65 ?_
      refine r_iload c165_66 rfl ?_
      refine r_iadd c165_68 ?_
      exact r_iret c165_69 (Or.inl rfl) h
    · have hc4 := Classical.not_not.mp hc3
      replace h := h.2 hc4
      refine r_iload c165_56 rfl ?_
      refine r_goto c165_58 ?_
      exact r_iret c165_69 (Or.inl rfl) h
  · have hc2 := Classical.not_not.mp hc1
    replace h := h.2 hc2
    refine r_iload c165_36 rfl ?_
    refine r_goto c165_38 ?_
    refine r_istore c165_49 (Nat.le_of_ble_eq_true rfl) ?_
    refine r_iload c165_51 rfl ?_
    refine r_ifP (P := ¬ l5 = (0 : Int)) c165_53 rfl (fun hc5 => ?_) (fun hc5 => ?_)
    · replace h := h.1 hc5
      refine r_bipush c165_61 ?_
      refine r_iload c165_63 rfl ?_
      refine r_imul c165_65 ?_
      refine r_iload c165_66 rfl ?_
      refine r_iadd c165_68 ?_
      exact r_iret c165_69 (Or.inl rfl) h
    · have hc6 := Classical.not_not.mp hc5
      replace h := h.2 hc6
      refine r_iload c165_56 rfl ?_
      refine r_goto c165_58 ?_
      exact r_iret c165_69 (Or.inl rfl) h
section MA
variable {d : Nat} {M : Mem} {K : KK} {Q : RR → Mem → KK → Prop} {B : BY} {n : Nat} {st : ST}
theorem g158 {c : Int} (hK : K.1 = 923) (hX : FX M) (h : SB B n M ∧ 0 ≤ c) (k : Q (.inl (some (vI (bt B n c)))) M K) : Wm d 158 [vR 440, vI c] M K Q := by
  obtain ⟨⟨h1, h2, h3⟩, h4⟩ := h
  refine u158_0 hK hX ⟨fun hlt => ⟨by omega, ?_⟩, fun hge => ?_⟩
  · unfold bt at k
    rw [if_neg (by omega)] at k
    rw [h3 _ (by omega)]; exact k
  · unfold bt at k
    rw [if_pos (by omega)] at k
    exact k
theorem TM_fail {k pl : Int} (h : TM B n M st) (hk : k ≠ 0) : TM B n (if M 440 5 = 0 then mset (mset M 440 5 k) 440 6 pl else M) (tFail k pl st) := by
  obtain ⟨h1, a, h4, h5, h6⟩ := h
  cases st with
  | inl p =>
    rw [if_pos h6.1]
    exact ⟨h1.fr ((FrM.rf.up (by decide)).up (by decide)), a, by rw [ms_nk (by decide), ms_nk (by decide)]; exact h4, h5, by rw [ms_nk (by decide), ms_eq], ms_eq, hk⟩
  | inr f =>
    rw [if_neg (by rw [h6.1]; exact h6.2.2)]
    exact ⟨h1, a, h4, h5, h6⟩
theorem g160 {u v : Int} (hK : K.1 = 923) (hX : FX M) (p : TM B n M st ∧ u ≠ 0) (k : ∀ M', FX M' → (FrM M M' ∧ TM B n M' (tFail u v st) ∧ M' 440 4 = M 440 4) → Q (.inl none) M' K) : Wm d 160 [vR 440, vI u, vI v] M K Q := by
  have h9 := TM_fail (pl := v) p.1 p.2
  refine u160_0 hK hX ⟨fun e => ?_, fun e => ?_⟩
  · rw [if_neg e] at h9
    exact k _ hX ⟨FrM.rf, h9, rfl⟩
  · rw [if_pos e] at h9
    have hf : FrM M (mset (mset M 440 5 u) 440 6 v) := (FrM.rf.up (by decide)).up (by decide)
    exact k _ (hf.fx hX) ⟨hf, h9, (ms_nk (by decide)).trans (ms_nk (by decide))⟩
theorem g161 {c : Int} (hK : K.1 = 923) (hX : FX M) (k : Q (.inl (some (vI (bI (isD c = true))))) M K) : Wm d 161 [vI c] M K Q := by
  refine u161_0 hK hX ⟨fun h => ?_, fun h => ⟨fun h2 => ?_, fun h2 => ?_⟩⟩
  · rwa [bI_f (by rw [isD_iff]; omega)] at k
  · rwa [bI_f (by rw [isD_iff]; omega)] at k
  · rwa [bI_t (by rw [isD_iff]; omega)] at k
theorem g162 {c : Int} (hK : K.1 = 923) (hX : FX M) (k : Q (.inl (some (vI (bI (isS c = true))))) M K) : Wm d 162 [vI c] M K Q := by
  refine u162_0 hK hX ⟨fun h => ?_, fun h => ⟨fun h2 => ?_, fun h2 => ?_⟩⟩
  · rwa [bI_f (by rw [isS_iff]; omega)] at k
  · rwa [bI_f (by rw [isS_iff]; omega)] at k
  · rwa [bI_t (by rw [isS_iff]; omega)] at k
end MA
theorem u159_0 {d : Nat}  {M : Mem} {K : KK} {Q : RR → Mem → KK → Prop} (hK : K.1 = 923) (hX : FX M)  (h : ∃ B1 : BY, ∃ n2 : Nat, (SB B1 n2 M ∧ 0 ≤ (M 440 4)) ∧ (¬ (bt B1 n2 (M 440 4)) = (32 : Int) → Q (.inl none) M K) ∧ ((bt B1 n2 (M 440 4)) = (32 : Int) → Wp (d + 1) 159 0 [vR 440] [] (mset M 440 4 (w32 ((M 440 4) + (1 : Int)))) K Q)) : Wp (d + 1) 159 0 [vR 440] [] M K Q := by
  refine r_aload_n c159_0 rfl ?_
  refine r_aload_n c159_1 rfl ?_
  refine r_getIe c159_2 (oK hK o440) rfl ?_
  obtain ⟨B1, h⟩ := h
  obtain ⟨n2, h⟩ := h
  obtain ⟨p3, h⟩ := h
  refine r_call c159_5 rfl rfl (Nat.le_of_ble_eq_true rfl) (okc_r rfl rfl (oK hK o440)) (g158 hK hX p3 (Bk_v ?_))
  refine r_bipush c159_8 ?_
  refine r_icmpP (P := ¬ (bt B1 n2 (M 440 4)) = (32 : Int)) c159_10 rfl (fun hc4 => ?_) (fun hc4 => ?_)
  · replace h := h.1 hc4
    exact r_ret c159_26 h
  · have hc5 := Classical.not_not.mp hc4
    replace h := h.2 hc5
    refine r_aload_n c159_13 rfl ?_
    refine r_dupr c159_14 ?_
    refine r_getIe c159_15 (oK hK o440) rfl ?_
    refine r_iconst c159_18 ?_
    refine r_iadd c159_19 ?_
    refine r_putI c159_20 (oK hK o440) ?_
    have x6 := FX.set (v := (w32 ((M 440 4) + (1 : Int)))) (a := 440) (k := 4) hX (by decide +kernel)
    refine r_goto c159_23 ?_
    exact h
section MB
variable {d : Nat} {M : Mem} {K : KK} {Q : RR → Mem → KK → Prop} {B : BY} {n : Nat} {st : ST}
theorem TM_at {M' : Mem} {p : Nat} (h : TM B n M st) (hf : FrB M M') (hp : M' 440 4 = (p : Int)) (hpn : p ≤ n) (hs : ∀ q, st = .inl q → sk B n p = q) : TM B n M' st := by
  obtain ⟨h1, a, h4, h5, h6⟩ := h
  refine ⟨h1.fr hf.fr, p, hp, hpn, ?_⟩
  cases st with
  | inl q => exact ⟨(hf 440 5 (by decide)).trans h6.1, hs q rfl⟩
  | inr f => exact ⟨(hf 440 5 (by decide)).trans h6.1, (hf 440 6 (by decide)).trans h6.2.1, h6.2.2⟩
theorem g159 (hK : K.1 = 923) (hX : FX M) (h : TM B n M st) (k : ∀ M', FX M' → (FrM M M' ∧ TM B n M' st ∧ AtM M' st) → Q (.inl none) M' K) : Wm (d + 1) 159 [vR 440] M K Q := by
  have h0 := h
  obtain ⟨h1, a, h4, h5, h6⟩ := h
  have hst : ∀ q, st = .inl q → sk B n a = q := by
    intro q hq; subst hq; exact h6.2
  have key : ∀ p, p ≤ n → (∀ M1, FrB M M1 → M1 440 4 = (p : Int) → sk B n a = sk B n p → Wp (d + 1) 159 0 [vR 440] [] M1 K Q) := by
    refine sp_ind (P := isB) (B := B) ?_ ?_
    · intro p hp hno M1 hf hat hsk
      have hx1 : FX M1 := hf.fr.fx hX
      have hp0 : sk B n p = p := by
        by_cases hh : p < n
        · exact sp_no (hno hh)
        · exact sp_end (by omega)
      refine u159_0 hK hx1 ⟨B, n, ⟨h1.fr hf.fr, by omega⟩, fun _ => ?_, fun he => ?_⟩
      · refine k M1 hx1 ⟨hf.fr, TM_at h0 hf hat hp (fun q hq => by rw [← hsk]; exact hst q hq), ?_⟩
        cases st with
        | inl q =>
          have hq : p = q := by rw [← hst q rfl, hsk, hp0]
          subst hq; exact hat
        | inr f => trivial
      · exfalso
        rw [hat] at he
        by_cases hh : p < n
        · rw [bt_lt hh] at he
          exact hno hh (isB_iff.mpr he)
        · rw [bt_ge (by omega)] at he; omega
    · intro p hp hb ih M1 hf hat hsk
      have hx1 : FX M1 := hf.fr.fx hX
      have := h1.2.1
      refine u159_0 hK hx1 ⟨B, n, ⟨h1.fr hf.fr, by omega⟩, fun hne => ?_, fun he => ?_⟩
      · exfalso
        rw [hat, bt_lt hp] at hne
        exact hne (isB_iff.mp hb)
      · rw [hat, show w32 ((p : Int) + 1) = ((p + 1 : Nat) : Int) from by rw [w32_id (by omega)]; omega]
        refine ih _ hf.up ms_eq ?_
        rw [hsk]; exact sp_go hp hb
  exact key a h5 M (fun _ _ _ => rfl) h4 rfl
end MB
theorem u163_0 {d : Nat} {l1 : Int} {l2 : Int} {M : Mem} {K : KK} {Q : RR → Mem → KK → Prop} (hK : K.1 = 923) (hX : FX M)  (h : ((M 440 5) = (0 : Int) → ∃ B2 : BY, ∃ n3 : Nat, ∃ st4 : ST, TM B2 n3 M st4 ∧ (∀ (M8 : Mem), FX M8 → (FrM M M8 ∧ TM B2 n3 M8 st4 ∧ AtM M8 st4) → ∃ B9 : BY, ∃ n10 : Nat, (SB B9 n10 M8 ∧ 0 ≤ (M8 440 4)) ∧ ((isD (bt B9 n10 (M8 440 4)) = true) → Wp (d + 2) 163 44 [vR 440, vI l1, vI l2, vI (M8 440 4), vI (0 : Int)] [] M8 K Q) ∧ (¬ (isD (bt B9 n10 (M8 440 4)) = true) → ∃ B13 : BY, ∃ n14 : Nat, ∃ st15 : ST, (TM B13 n14 M8 st15 ∧ (1 : Int) ≠ 0) ∧ (∀ (M19 : Mem), FX M19 → (FrM M8 M19 ∧ TM B13 n14 M19 (tFail (1 : Int) (M8 440 4) st15) ∧ M19 440 4 = M8 440 4) → Wp (d + 2) 163 44 [vR 440, vI l1, vI l2, vI (M8 440 4), vI (0 : Int)] [] M19 K Q)))) ∧ (¬ ((M 440 5) = (0 : Int)) → Q (.inl (some (vI (0 : Int)))) M K)) : Wp (d + 2) 163 0 [vR 440, vI l1, vI l2, vU, vU] [] M K Q := by
  refine r_aload_n c163_0 rfl ?_
  refine r_getIe c163_1 (oK hK o440) rfl ?_
  refine r_ifP (P := (M 440 5) = (0 : Int)) c163_4 rfl (fun hc1 => ?_) (fun hc1 => ?_)
  · replace h := h.1 hc1
    refine r_aload_n c163_9 rfl ?_
    obtain ⟨B2, h⟩ := h
    obtain ⟨n3, h⟩ := h
    obtain ⟨st4, h⟩ := h
    obtain ⟨p5, h⟩ := h
    refine r_call c163_10 rfl rfl (Nat.le_of_ble_eq_true rfl) (okc_r rfl rfl (oK hK o440)) (g159 hK hX p5 (fun M8 x6 p7 => Bk_n ?_))
    replace h := h M8 x6 p7
    refine r_aload_n c163_13 rfl ?_
    refine r_getIe c163_14 (oK hK o440) rfl ?_
    refine r_istore_n c163_17 (Nat.le_of_ble_eq_true rfl) ?_
    refine r_iconst c163_18 ?_
    refine r_istore c163_19 (Nat.le_of_ble_eq_true rfl) ?_
    refine r_aload_n c163_21 rfl ?_
    refine r_aload_n c163_22 rfl ?_
    refine r_getIe c163_23 (oK hK o440) rfl ?_
    obtain ⟨B9, h⟩ := h
    obtain ⟨n10, h⟩ := h
    obtain ⟨p11, h⟩ := h
    refine r_call c163_26 rfl rfl (Nat.le_of_ble_eq_true rfl) (okc_r rfl rfl (oK hK o440)) (g158 hK x6 p11 (Bk_v ?_))
    refine r_call c163_29 rfl rfl (Nat.le_of_ble_eq_true rfl) (okc_s rfl rfl rfl) (g161 hK x6  (Bk_v ?_))
    refine r_ifP (P := (isD (bt B9 n10 (M8 440 4)) = true)) c163_32 bI_ne (fun hc12 => ?_) (fun hc12 => ?_)
    · replace h := h.1 hc12
      exact h
    · replace h := h.2 hc12
      refine r_aload_n c163_35 rfl ?_
      refine r_iconst c163_36 ?_
      refine r_aload_n c163_37 rfl ?_
      refine r_getIe c163_38 (oK hK o440) rfl ?_
      obtain ⟨B13, h⟩ := h
      obtain ⟨n14, h⟩ := h
      obtain ⟨st15, h⟩ := h
      obtain ⟨p16, h⟩ := h
      refine r_call c163_41 rfl rfl (Nat.le_of_ble_eq_true rfl) (okc_r rfl rfl (oK hK o440)) (g160 hK x6 p16 (fun M19 x17 p18 => Bk_n ?_))
      replace h := h M19 x17 p18
      exact h
  · replace h := h.2 hc1
    refine r_iconst c163_7 ?_
    exact r_iret c163_8 (Or.inl rfl) h
theorem u163_44 {d : Nat} {l1 : Int} {l2 : Int} {l3 : Int} {l4 : Int} {M : Mem} {K : KK} {Q : RR → Mem → KK → Prop} (hK : K.1 = 923) (hX : FX M)  (h : ∃ B1 : BY, ∃ n2 : Nat, (SB B1 n2 M ∧ 0 ≤ (M 440 4)) ∧ (¬ (isD (bt B1 n2 (M 440 4)) = true) → ((l1 ≤ l4 ∧ l4 ≤ l2) → (¬ (M 440 5) = (0 : Int) → Q (.inl (some (vI (0 : Int)))) M K) ∧ ((M 440 5) = (0 : Int) → Q (.inl (some (vI l4))) M K)) ∧ (¬ (l1 ≤ l4 ∧ l4 ≤ l2) → ∃ B9 : BY, ∃ n10 : Nat, ∃ st11 : ST, (TM B9 n10 M st11 ∧ (2 : Int) ≠ 0) ∧ (∀ (M15 : Mem), FX M15 → (FrM M M15 ∧ TM B9 n10 M15 (tFail (2 : Int) l3 st11) ∧ M15 440 4 = M 440 4) → (¬ (M15 440 5) = (0 : Int) → Q (.inl (some (vI (0 : Int)))) M15 K) ∧ ((M15 440 5) = (0 : Int) → Q (.inl (some (vI l4))) M15 K)))) ∧ ((isD (bt B1 n2 (M 440 4)) = true) → ∃ B18 : BY, ∃ n19 : Nat, (SB B18 n19 M ∧ 0 ≤ (M 440 4)) ∧ ((w32 ((w32 ((w32 ((10 : Int) * l4)) + (bt B18 n19 (M 440 4)))) - (48 : Int))) ≤ (100000 : Int) → Wp (d + 2) 163 44 [vR 440, vI l1, vI l2, vI l3, vI (w32 ((w32 ((w32 ((10 : Int) * l4)) + (bt B18 n19 (M 440 4)))) - (48 : Int)))] [] (mset M 440 4 (w32 ((M 440 4) + (1 : Int)))) K Q) ∧ (¬ ((w32 ((w32 ((w32 ((10 : Int) * l4)) + (bt B18 n19 (M 440 4)))) - (48 : Int))) ≤ (100000 : Int)) → Wp (d + 2) 163 44 [vR 440, vI l1, vI l2, vI l3, vI (100000 : Int)] [] (mset M 440 4 (w32 ((M 440 4) + (1 : Int)))) K Q))) : Wp (d + 2) 163 44 [vR 440, vI l1, vI l2, vI l3, vI l4] [] M K Q := by
  refine r_aload_n c163_44 rfl ?_
  refine r_aload_n c163_45 rfl ?_
  refine r_getIe c163_46 (oK hK o440) rfl ?_
  obtain ⟨B1, h⟩ := h
  obtain ⟨n2, h⟩ := h
  obtain ⟨p3, h⟩ := h
  refine r_call c163_49 rfl rfl (Nat.le_of_ble_eq_true rfl) (okc_r rfl rfl (oK hK o440)) (g158 hK hX p3 (Bk_v ?_))
  refine r_call c163_52 rfl rfl (Nat.le_of_ble_eq_true rfl) (okc_s rfl rfl rfl) (g161 hK hX  (Bk_v ?_))
  refine r_ifP (P := ¬ (isD (bt B1 n2 (M 440 4)) = true)) c163_55 bI_eq (fun hc4 => ?_) (fun hc4 => ?_)
  · replace h := h.1 hc4
    refine r_iload c163_106 rfl ?_
    refine r_iload_n c163_108 rfl ?_
    refine r_iload_n c163_109 rfl ?_
    refine r_call c163_110 rfl rfl (Nat.le_of_ble_eq_true rfl) (okc_s rfl rfl rfl) (g153 hK hX  (Bk_v ?_))
    refine r_ifP (P := (l1 ≤ l4 ∧ l4 ≤ l2)) c163_113 bI_ne (fun hc6 => ?_) (fun hc6 => ?_)
    · replace h := h.1 hc6
      refine r_aload_n c163_122 rfl ?_
      refine r_getIe c163_123 (oK hK o440) rfl ?_
      refine r_ifP (P := ¬ (M 440 5) = (0 : Int)) c163_126 rfl (fun hc7 => ?_) (fun hc7 => ?_)
      · replace h := h.1 hc7
        refine r_iconst c163_134 ?_
        exact r_iret c163_135 (Or.inl rfl) h
      · have hc8 := Classical.not_not.mp hc7
        replace h := h.2 hc8
        refine r_iload c163_129 rfl ?_
        refine r_goto c163_131 ?_
        exact r_iret c163_135 (Or.inl rfl) h
    · replace h := h.2 hc6
      refine r_aload_n c163_116 rfl ?_
      refine r_iconst c163_117 ?_
      refine r_iload_n c163_118 rfl ?_
      obtain ⟨B9, h⟩ := h
      obtain ⟨n10, h⟩ := h
      obtain ⟨st11, h⟩ := h
      obtain ⟨p12, h⟩ := h
      refine r_call c163_119 rfl rfl (Nat.le_of_ble_eq_true rfl) (okc_r rfl rfl (oK hK o440)) (g160 hK hX p12 (fun M15 x13 p14 => Bk_n ?_))
      replace h := h M15 x13 p14
      refine r_aload_n c163_122 rfl ?_
      refine r_getIe c163_123 (oK hK o440) rfl ?_
      refine r_ifP (P := ¬ (M15 440 5) = (0 : Int)) c163_126 rfl (fun hc16 => ?_) (fun hc16 => ?_)
      · replace h := h.1 hc16
        refine r_iconst c163_134 ?_
        exact r_iret c163_135 (Or.inl rfl) h
      · have hc17 := Classical.not_not.mp hc16
        replace h := h.2 hc17
        refine r_iload c163_129 rfl ?_
        refine r_goto c163_131 ?_
        exact r_iret c163_135 (Or.inl rfl) h
  · have hc5 := Classical.not_not.mp hc4
    replace h := h.2 hc5
    refine r_bipush c163_58 ?_
    refine r_iload c163_60 rfl ?_
    refine r_imul c163_62 ?_
    refine r_aload_n c163_63 rfl ?_
    refine r_aload_n c163_64 rfl ?_
    refine r_getIe c163_65 (oK hK o440) rfl ?_
    obtain ⟨B18, h⟩ := h
    obtain ⟨n19, h⟩ := h
    obtain ⟨p20, h⟩ := h
    refine r_call c163_68 rfl rfl (Nat.le_of_ble_eq_true rfl) (okc_r rfl rfl (oK hK o440)) (g158 hK hX p20 (Bk_v ?_))
    refine r_iadd c163_71 ?_
    refine r_bipush c163_72 ?_
    refine r_isub c163_74 ?_
    refine r_istore c163_75 (Nat.le_of_ble_eq_true rfl) ?_
    refine r_iload c163_77 rfl ?_
    refine r_ldci c163_79 ?_
    refine r_icmpP (P := (w32 ((w32 ((w32 ((10 : Int) * l4)) + (bt B18 n19 (M 440 4)))) - (48 : Int))) ≤ (100000 : Int)) c163_81 rfl (fun hc21 => ?_) (fun hc21 => ?_)
    · replace h := h.1 hc21
      refine r_iload c163_89 rfl ?_
      refine r_istore c163_91 (Nat.le_of_ble_eq_true rfl) ?_
      refine r_aload_n c163_93 rfl ?_
      refine r_dupr c163_94 ?_
      refine r_getIe c163_95 (oK hK o440) rfl ?_
      refine r_iconst c163_98 ?_
      refine r_iadd c163_99 ?_
      refine r_putI c163_100 (oK hK o440) ?_
      have x22 := FX.set (v := (w32 ((M 440 4) + (1 : Int)))) (a := 440) (k := 4) hX (by decide +kernel)
      refine r_goto c163_103 ?_
      exact h
    · replace h := h.2 hc21
      refine r_ldci c163_84 ?_
      refine r_goto c163_86 ?_
      refine r_istore c163_91 (Nat.le_of_ble_eq_true rfl) ?_
      refine r_aload_n c163_93 rfl ?_
      refine r_dupr c163_94 ?_
      refine r_getIe c163_95 (oK hK o440) rfl ?_
      refine r_iconst c163_98 ?_
      refine r_iadd c163_99 ?_
      refine r_putI c163_100 (oK hK o440) ?_
      have x23 := FX.set (v := (w32 ((M 440 4) + (1 : Int)))) (a := 440) (k := 4) hX (by decide +kernel)
      refine r_goto c163_103 ?_
      exact h
theorem u164_0 {d : Nat}  {M : Mem} {K : KK} {Q : RR → Mem → KK → Prop} (hK : K.1 = 923) (hX : FX M)  (h : ∃ B1 : BY, ∃ n2 : Nat, ∃ st3 : ST, TM B1 n2 M st3 ∧ (∀ (M7 : Mem), FX M7 → (FrM M M7 ∧ TM B1 n2 M7 st3 ∧ AtM M7 st3) → Wp (d + 2) 164 8 [vR 440, vI (0 : Int), vI (0 : Int)] [] M7 K Q)) : Wp (d + 2) 164 0 [vR 440, vU, vU] [] M K Q := by
  refine r_aload_n c164_0 rfl ?_
  obtain ⟨B1, h⟩ := h
  obtain ⟨n2, h⟩ := h
  obtain ⟨st3, h⟩ := h
  obtain ⟨p4, h⟩ := h
  refine r_call c164_1 rfl rfl (Nat.le_of_ble_eq_true rfl) (okc_r rfl rfl (oK hK o440)) (g159 hK hX p4 (fun M7 x5 p6 => Bk_n ?_))
  replace h := h M7 x5 p6
  refine r_iconst c164_4 ?_
  refine r_istore_n c164_5 (Nat.le_of_ble_eq_true rfl) ?_
  refine r_iconst c164_6 ?_
  refine r_istore_n c164_7 (Nat.le_of_ble_eq_true rfl) ?_
  exact h
theorem u164_8 {d : Nat} {l1 : Int} {l2 : Int} {M : Mem} {K : KK} {Q : RR → Mem → KK → Prop} (hK : K.1 = 923) (hX : FX M)  (h : ∃ B1 : BY, ∃ n2 : Nat, (SB B1 n2 M ∧ 0 ≤ (w32 ((M 440 4) + l2))) ∧ (¬ (isS (bt B1 n2 (w32 ((M 440 4) + l2))) = true) → (l2 ≤ (6 : Int) → Q (.inl (some (vI l1))) M K) ∧ (¬ (l2 ≤ (6 : Int)) → Q (.inl (some (vI (-1 : Int)))) M K)) ∧ ((isS (bt B1 n2 (w32 ((M 440 4) + l2))) = true) → ((6 : Int) ≤ l2 → Wp (d + 2) 164 8 [vR 440, vI l1, vI (w32 (l2 + 1))] [] M K Q) ∧ (¬ ((6 : Int) ≤ l2) → ∃ B8 : BY, ∃ n9 : Nat, (SB B8 n9 M ∧ 0 ≤ (w32 ((M 440 4) + l2))) ∧ Wp (d + 2) 164 8 [vR 440, vI (w32 ((w32 ((w32 ((w32 ((27 : Int) * l1)) + (bt B8 n9 (w32 ((M 440 4) + l2))))) - (97 : Int))) + (1 : Int))), vI (w32 (l2 + 1))] [] M K Q))) : Wp (d + 2) 164 8 [vR 440, vI l1, vI l2] [] M K Q := by
  refine r_aload_n c164_8 rfl ?_
  refine r_aload_n c164_9 rfl ?_
  refine r_getIe c164_10 (oK hK o440) rfl ?_
  refine r_iload_n c164_13 rfl ?_
  refine r_iadd c164_14 ?_
  obtain ⟨B1, h⟩ := h
  obtain ⟨n2, h⟩ := h
  obtain ⟨p3, h⟩ := h
  refine r_call c164_15 rfl rfl (Nat.le_of_ble_eq_true rfl) (okc_r rfl rfl (oK hK o440)) (g158 hK hX p3 (Bk_v ?_))
  refine r_call c164_18 rfl rfl (Nat.le_of_ble_eq_true rfl) (okc_s rfl rfl rfl) (g162 hK hX  (Bk_v ?_))
  refine r_ifP (P := ¬ (isS (bt B1 n2 (w32 ((M 440 4) + l2))) = true)) c164_21 bI_eq (fun hc4 => ?_) (fun hc4 => ?_)
  · replace h := h.1 hc4
    refine r_iload_n c164_61 rfl ?_
    refine r_bipush c164_62 ?_
    refine r_icmpP (P := l2 ≤ (6 : Int)) c164_64 rfl (fun hc6 => ?_) (fun hc6 => ?_)
    · replace h := h.1 hc6
      refine r_iload_n c164_71 rfl ?_
      exact r_iret c164_72 (Or.inl rfl) h
    · replace h := h.2 hc6
      refine r_iconst c164_67 ?_
      refine r_goto c164_68 ?_
      exact r_iret c164_72 (Or.inl rfl) h
  · have hc5 := Classical.not_not.mp hc4
    replace h := h.2 hc5
    refine r_iload_n c164_24 rfl ?_
    refine r_bipush c164_25 ?_
    refine r_icmpP (P := (6 : Int) ≤ l2) c164_27 rfl (fun hc7 => ?_) (fun hc7 => ?_)
    · replace h := h.1 hc7
      refine r_iload_n c164_53 rfl ?_
      refine r_istore_n c164_54 (Nat.le_of_ble_eq_true rfl) ?_
      refine r_iinc c164_55 rfl ?_
      refine r_goto c164_58 ?_
      exact h
    · replace h := h.2 hc7
      refine r_bipush c164_30 ?_
      refine r_iload_n c164_32 rfl ?_
      refine r_imul c164_33 ?_
      refine r_aload_n c164_34 rfl ?_
      refine r_aload_n c164_35 rfl ?_
      refine r_getIe c164_36 (oK hK o440) rfl ?_
      refine r_iload_n c164_39 rfl ?_
      refine r_iadd c164_40 ?_
      obtain ⟨B8, h⟩ := h
      obtain ⟨n9, h⟩ := h
      obtain ⟨p10, h⟩ := h
      refine r_call c164_41 rfl rfl (Nat.le_of_ble_eq_true rfl) (okc_r rfl rfl (oK hK o440)) (g158 hK hX p10 (Bk_v ?_))
      refine r_iadd c164_44 ?_
      refine r_bipush c164_45 ?_
      refine r_isub c164_47 ?_
      refine r_iconst c164_48 ?_
      refine r_iadd c164_49 ?_
      refine r_goto c164_50 ?_
      refine r_istore_n c164_54 (Nat.le_of_ble_eq_true rfl) ?_
      refine r_iinc c164_55 rfl ?_
      refine r_goto c164_58 ?_
      exact h
theorem u167_0 {d : Nat}  {M : Mem} {K : KK} {Q : RR → Mem → KK → Prop} (hK : K.1 = 923) (hX : FX M)  (h : ∃ B1 : BY, ∃ n2 : Nat, (SB B1 n2 M ∧ 0 ≤ (M 440 4)) ∧ (¬ (isS (bt B1 n2 (M 440 4)) = true) → Q (.inl none) M K) ∧ ((isS (bt B1 n2 (M 440 4)) = true) → Wp (d + 1) 167 0 [vR 440] [] (mset M 440 4 (w32 ((M 440 4) + (1 : Int)))) K Q)) : Wp (d + 1) 167 0 [vR 440] [] M K Q := by
  refine r_aload_n c167_0 rfl ?_
  refine r_aload_n c167_1 rfl ?_
  refine r_getIe c167_2 (oK hK o440) rfl ?_
  obtain ⟨B1, h⟩ := h
  obtain ⟨n2, h⟩ := h
  obtain ⟨p3, h⟩ := h
  refine r_call c167_5 rfl rfl (Nat.le_of_ble_eq_true rfl) (okc_r rfl rfl (oK hK o440)) (g158 hK hX p3 (Bk_v ?_))
  refine r_call c167_8 rfl rfl (Nat.le_of_ble_eq_true rfl) (okc_s rfl rfl rfl) (g162 hK hX  (Bk_v ?_))
  refine r_ifP (P := ¬ (isS (bt B1 n2 (M 440 4)) = true)) c167_11 bI_eq (fun hc4 => ?_) (fun hc4 => ?_)
  · replace h := h.1 hc4
    exact r_ret c167_27 h
  · have hc5 := Classical.not_not.mp hc4
    replace h := h.2 hc5
    refine r_aload_n c167_14 rfl ?_
    refine r_dupr c167_15 ?_
    refine r_getIe c167_16 (oK hK o440) rfl ?_
    refine r_iconst c167_19 ?_
    refine r_iadd c167_20 ?_
    refine r_putI c167_21 (oK hK o440) ?_
    have x6 := FX.set (v := (w32 ((M 440 4) + (1 : Int)))) (a := 440) (k := 4) hX (by decide +kernel)
    refine r_goto c167_24 ?_
    exact h
theorem u169_0 {d : Nat} {l1 : Int} {M : Mem} {K : KK} {Q : RR → Mem → KK → Prop} (hK : K.1 = 923) (hX : FX M)  (h : ((M 440 5) = (0 : Int) → ∃ B2 : BY, ∃ n3 : Nat, ∃ st4 : ST, TM B2 n3 M st4 ∧ (∀ (M8 : Mem), FX M8 → (FrM M M8 ∧ TM B2 n3 M8 st4 ∧ AtM M8 st4) → ∃ B9 : BY, ∃ n10 : Nat, (SB B9 n10 M8 ∧ 0 ≤ (M8 440 4)) ∧ (¬ (bt B9 n10 (M8 440 4)) = l1 → ∃ B14 : BY, ∃ n15 : Nat, ∃ st16 : ST, (TM B14 n15 M8 st16 ∧ (1 : Int) ≠ 0) ∧ (∀ (M20 : Mem), FX M20 → (FrM M8 M20 ∧ TM B14 n15 M20 (tFail (1 : Int) (M8 440 4) st16) ∧ M20 440 4 = M8 440 4) → Q (.inl none) M20 K)) ∧ ((bt B9 n10 (M8 440 4)) = l1 → Q (.inl none) (mset M8 440 4 (w32 ((M8 440 4) + (1 : Int)))) K))) ∧ (¬ ((M 440 5) = (0 : Int)) → Q (.inl none) M K)) : Wp (d + 2) 169 0 [vR 440, vI l1] [] M K Q := by
  refine r_aload_n c169_0 rfl ?_
  refine r_getIe c169_1 (oK hK o440) rfl ?_
  refine r_ifP (P := (M 440 5) = (0 : Int)) c169_4 rfl (fun hc1 => ?_) (fun hc1 => ?_)
  · replace h := h.1 hc1
    refine r_aload_n c169_8 rfl ?_
    obtain ⟨B2, h⟩ := h
    obtain ⟨n3, h⟩ := h
    obtain ⟨st4, h⟩ := h
    obtain ⟨p5, h⟩ := h
    refine r_call c169_9 rfl rfl (Nat.le_of_ble_eq_true rfl) (okc_r rfl rfl (oK hK o440)) (g159 hK hX p5 (fun M8 x6 p7 => Bk_n ?_))
    replace h := h M8 x6 p7
    refine r_aload_n c169_12 rfl ?_
    refine r_aload_n c169_13 rfl ?_
    refine r_getIe c169_14 (oK hK o440) rfl ?_
    obtain ⟨B9, h⟩ := h
    obtain ⟨n10, h⟩ := h
    obtain ⟨p11, h⟩ := h
    refine r_call c169_17 rfl rfl (Nat.le_of_ble_eq_true rfl) (okc_r rfl rfl (oK hK o440)) (g158 hK x6 p11 (Bk_v ?_))
    refine r_iload_n c169_20 rfl ?_
    refine r_icmpP (P := ¬ (bt B9 n10 (M8 440 4)) = l1) c169_21 rfl (fun hc12 => ?_) (fun hc12 => ?_)
    · replace h := h.1 hc12
      refine r_aload_n c169_37 rfl ?_
      refine r_iconst c169_38 ?_
      refine r_aload_n c169_39 rfl ?_
      refine r_getIe c169_40 (oK hK o440) rfl ?_
      obtain ⟨B14, h⟩ := h
      obtain ⟨n15, h⟩ := h
      obtain ⟨st16, h⟩ := h
      obtain ⟨p17, h⟩ := h
      refine r_call c169_43 rfl rfl (Nat.le_of_ble_eq_true rfl) (okc_r rfl rfl (oK hK o440)) (g160 hK x6 p17 (fun M20 x18 p19 => Bk_n ?_))
      replace h := h M20 x18 p19
      exact r_ret c169_46 h
    · have hc13 := Classical.not_not.mp hc12
      replace h := h.2 hc13
      refine r_aload_n c169_24 rfl ?_
      refine r_dupr c169_25 ?_
      refine r_getIe c169_26 (oK hK o440) rfl ?_
      refine r_iconst c169_29 ?_
      refine r_iadd c169_30 ?_
      refine r_putI c169_31 (oK hK o440) ?_
      have x21 := FX.set (v := (w32 ((M8 440 4) + (1 : Int)))) (a := 440) (k := 4) x6 (by decide +kernel)
      refine r_goto c169_34 ?_
      exact r_ret c169_46 h
  · replace h := h.2 hc1
    exact r_ret c169_7 h
theorem u170_0 {d : Nat} {l1 : Int} {M : Mem} {K : KK} {Q : RR → Mem → KK → Prop} (hK : K.1 = 923) (hX : FX M)  (h : ((M 440 5) = (0 : Int) → ∃ B2 : BY, ∃ n3 : Nat, ∃ st4 : ST, TM B2 n3 M st4 ∧ (∀ (M8 : Mem), FX M8 → (FrM M M8 ∧ TM B2 n3 M8 st4 ∧ AtM M8 st4) → ∃ B9 : BY, ∃ n10 : Nat, (SB B9 n10 M8 ∧ 0 ≤ (M8 440 4)) ∧ (¬ (bt B9 n10 (M8 440 4)) = l1 → Q (.inl (some (vI (0 : Int)))) M8 K) ∧ ((bt B9 n10 (M8 440 4)) = l1 → Q (.inl (some (vI (1 : Int)))) (mset M8 440 4 (w32 ((M8 440 4) + (1 : Int)))) K))) ∧ (¬ ((M 440 5) = (0 : Int)) → Q (.inl (some (vI (0 : Int)))) M K)) : Wp (d + 2) 170 0 [vR 440, vI l1, vU] [] M K Q := by
  refine r_aload_n c170_0 rfl ?_
  refine r_getIe c170_1 (oK hK o440) rfl ?_
  refine r_ifP (P := (M 440 5) = (0 : Int)) c170_4 rfl (fun hc1 => ?_) (fun hc1 => ?_)
  · replace h := h.1 hc1
    refine r_aload_n c170_9 rfl ?_
    obtain ⟨B2, h⟩ := h
    obtain ⟨n3, h⟩ := h
    obtain ⟨st4, h⟩ := h
    obtain ⟨p5, h⟩ := h
    refine r_call c170_10 rfl rfl (Nat.le_of_ble_eq_true rfl) (okc_r rfl rfl (oK hK o440)) (g159 hK hX p5 (fun M8 x6 p7 => Bk_n ?_))
    replace h := h M8 x6 p7
    refine r_aload_n c170_13 rfl ?_
    refine r_aload_n c170_14 rfl ?_
    refine r_getIe c170_15 (oK hK o440) rfl ?_
    obtain ⟨B9, h⟩ := h
    obtain ⟨n10, h⟩ := h
    obtain ⟨p11, h⟩ := h
    refine r_call c170_18 rfl rfl (Nat.le_of_ble_eq_true rfl) (okc_r rfl rfl (oK hK o440)) (g158 hK x6 p11 (Bk_v ?_))
    refine r_iload_n c170_21 rfl ?_
    refine r_icmpP (P := ¬ (bt B9 n10 (M8 440 4)) = l1) c170_22 rfl (fun hc12 => ?_) (fun hc12 => ?_)
    · replace h := h.1 hc12
      refine r_iconst c170_29 ?_
      refine r_istore_n c170_30 (Nat.le_of_ble_eq_true rfl) ?_
      refine r_iload_n c170_31 rfl ?_
      refine r_ifP (P := (0 : Int) = (0 : Int)) c170_32 rfl (fun hc => ?_) (fun hc => absurd (by decide) hc)
      refine r_iload_n c170_45 rfl ?_
      exact r_iret c170_46 (by decide) h
    · have hc13 := Classical.not_not.mp hc12
      replace h := h.2 hc13
      refine r_iconst c170_25 ?_
      refine r_goto c170_26 ?_
      refine r_istore_n c170_30 (Nat.le_of_ble_eq_true rfl) ?_
      refine r_iload_n c170_31 rfl ?_
      refine r_ifP (P := (1 : Int) = (0 : Int)) c170_32 rfl (fun hc => absurd hc (by decide)) (fun hc => ?_)
      refine r_aload_n c170_35 rfl ?_
      refine r_dupr c170_36 ?_
      refine r_getIe c170_37 (oK hK o440) rfl ?_
      refine r_iconst c170_40 ?_
      refine r_iadd c170_41 ?_
      refine r_putI c170_42 (oK hK o440) ?_
      have x14 := FX.set (v := (w32 ((M8 440 4) + (1 : Int)))) (a := 440) (k := 4) x6 (by decide +kernel)
      refine r_iload_n c170_45 rfl ?_
      exact r_iret c170_46 (by decide) h
  · replace h := h.2 hc1
    refine r_iconst c170_7 ?_
    exact r_iret c170_8 (by decide) h
theorem u171_0 {d : Nat} {l1 : Int} {M : Mem} {K : KK} {Q : RR → Mem → KK → Prop} (hK : K.1 = 923) (hX : FX M)  (h : ∃ B8 : BY, ∃ n9 : Nat, ∃ st10 : ST, TM B8 n9 (mset (mset (mset (mset (mset (mset (mset M 440 1 (0 : Int)) 440 2 l1) 440 4 (0 : Int)) 440 5 (0 : Int)) 440 6 (-1 : Int)) 440 7 (0 : Int)) 440 8 (0 : Int)) st10 ∧ (∀ (M14 : Mem), FX M14 → (FrM (mset (mset (mset (mset (mset (mset (mset M 440 1 (0 : Int)) 440 2 l1) 440 4 (0 : Int)) 440 5 (0 : Int)) 440 6 (-1 : Int)) 440 7 (0 : Int)) 440 8 (0 : Int)) M14 ∧ TM B8 n9 M14 st10 ∧ AtM M14 st10) → Q (.inl none) M14 K)) : Wp (d + 2) 171 0 [vR 440, vI l1] [] M K Q := by
  refine r_aload_n c171_0 rfl ?_
  refine r_iconst c171_1 ?_
  refine r_putI c171_2 (oK hK o440) ?_
  have x1 := FX.set (v := (0 : Int)) (a := 440) (k := 1) hX (by decide +kernel)
  refine r_aload_n c171_5 rfl ?_
  refine r_iload_n c171_6 rfl ?_
  refine r_putI c171_7 (oK hK o440) ?_
  have x2 := FX.set (v := l1) (a := 440) (k := 2) x1 (by decide +kernel)
  refine r_aload_n c171_10 rfl ?_
  refine r_iconst c171_11 ?_
  refine r_putI c171_12 (oK hK o440) ?_
  have x3 := FX.set (v := (0 : Int)) (a := 440) (k := 4) x2 (by decide +kernel)
  refine r_aload_n c171_15 rfl ?_
  refine r_iconst c171_16 ?_
  refine r_putI c171_17 (oK hK o440) ?_
  have x4 := FX.set (v := (0 : Int)) (a := 440) (k := 5) x3 (by decide +kernel)
  refine r_aload_n c171_20 rfl ?_
  refine r_iconst c171_21 ?_
  refine r_putI c171_22 (oK hK o440) ?_
  have x5 := FX.set (v := (-1 : Int)) (a := 440) (k := 6) x4 (by decide +kernel)
  refine r_aload_n c171_25 rfl ?_
  refine r_iconst c171_26 ?_
  refine r_putI c171_27 (oK hK o440) ?_
  have x6 := FX.set (v := (0 : Int)) (a := 440) (k := 7) x5 (by decide +kernel)
  refine r_aload_n c171_30 rfl ?_
  refine r_iconst c171_31 ?_
  refine r_putI c171_32 (oK hK o440) ?_
  have x7 := FX.set (v := (0 : Int)) (a := 440) (k := 8) x6 (by decide +kernel)
  refine r_aload_n c171_35 rfl ?_
  obtain ⟨B8, h⟩ := h
  obtain ⟨n9, h⟩ := h
  obtain ⟨st10, h⟩ := h
  obtain ⟨p11, h⟩ := h
  refine r_call c171_36 rfl rfl (Nat.le_of_ble_eq_true rfl) (okc_r rfl rfl (oK hK o440)) (g159 hK x7 p11 (fun M14 x12 p13 => Bk_n ?_))
  replace h := h M14 x12 p13
  exact r_ret c171_39 h
theorem u172_0 {d : Nat}  {M : Mem} {K : KK} {Q : RR → Mem → KK → Prop} (hK : K.1 = 923) (hX : FX M)  (h : Q (.inl (some (vI (w32 ((M 440 5) - (10 : Int)))))) (mset M 440 3 (M 440 6)) K) : Wp d 172 0 [vR 440] [] M K Q := by
  refine r_aload_n c172_0 rfl ?_
  refine r_aload_n c172_1 rfl ?_
  refine r_getIe c172_2 (oK hK o440) rfl ?_
  refine r_putI c172_5 (oK hK o440) ?_
  have x1 := FX.set (v := (M 440 6)) (a := 440) (k := 3) hX (by decide +kernel)
  refine r_aload_n c172_8 rfl ?_
  refine r_getIe c172_9 (oK hK o440) (ms_nk (by decide)) ?_
  refine r_bipush c172_12 ?_
  refine r_isub c172_14 ?_
  exact r_iret c172_15 (Or.inl rfl) h
def okv (x : Int × ST) : Int := match x.2 with
  | .inl _ => x.1
  | .inr _ => 0
/-- the model at a digit's, a small letter's loop -/
theorem mloop {P : Int → Bool} {B : BY} {n : Nat} {M : Mem} {K : KK} {Q : RR → Mem → KK → Prop} {D m pc a : Nat} {L : Nat → List PV} (hn : SB B n M) (ha : a ≤ n) (hat : M 440 4 = (a : Int))
    (stop : ∀ q, a ≤ q → q ≤ n → sp P B n a = q → (q < n → ¬ P (B q) = true) → ∀ M', FrB M M' → M' 440 4 = (q : Int) → Wp D m pc (L q) [] M' K Q)
    (go : ∀ q, a ≤ q → q < n → P (B q) = true → (∀ x, a ≤ x → x < q → P (B x) = true) → ∀ M', FrB M M' → M' 440 4 = (q : Int) → Wp D m pc (L (q + 1)) [] (mset M' 440 4 (w32 (M' 440 4 + 1))) K Q → Wp D m pc (L q) [] M' K Q) : Wp D m pc (L a) [] M K Q := by
  have h600 := hn.2.1
  have key : ∀ q, q ≤ n → (a ≤ q → (∀ x, a ≤ x → x < q → P (B x) = true) → sp P B n a = sp P B n q → ∀ M', FrB M M' → M' 440 4 = (q : Int) → Wp D m pc (L q) [] M' K Q) := by
    refine sp_ind (P := P) (B := B) ?_ ?_
    · intro q hq hno haq hall hsp M' hf hM
      have : sp P B n q = q := by
        by_cases hh : q < n
        · exact sp_no (hno hh)
        · exact sp_end (by omega)
      exact stop q haq hq (hsp.trans this) hno M' hf hM
    · intro q hq hp ih haq hall hsp M' hf hM
      refine go q haq hq hp hall M' hf hM ?_
      rw [hM, show w32 ((q : Int) + 1) = ((q + 1 : Nat) : Int) from by rw [w32_id (by omega)]; omega]
      refine ih (by omega) (fun x h1 h2 => ?_) (hsp.trans (sp_go hq hp)) _ hf.up ms_eq
      by_cases hx : x = q
      · subst hx; exact hp
      · exact hall x h1 (by omega)
  exact key a ha (Nat.le_refl _) (fun x _ _ => by omega) rfl M (fun _ _ _ => rfl) hat
section MC
variable {d : Nat} {M : Mem} {K : KK} {Q : RR → Mem → KK → Prop} {B : BY} {n : Nat} {st : ST}
theorem isD_m1 : ¬ isD (-1) = true := by decide
theorem isS_m1 : ¬ isS (-1) = true := by decide
theorem bt_no {P : Int → Bool} {q : Nat} (hm : ¬ P (-1) = true) (h : q < n → ¬ P (B q) = true) : ¬ P (bt B n (q : Int)) = true := by
  by_cases hh : q < n
  · rw [bt_lt hh]; exact h hh
  · rw [bt_ge (by omega)]; exact hm
theorem TM_0 (h : TM B n M st) : M 440 5 = 0 ↔ ∃ p, st = .inl p := by
  obtain ⟨h1, a, h4, h5, h6⟩ := h
  cases st with
  | inl p => exact ⟨fun _ => ⟨p, rfl⟩, fun _ => h6.1⟩
  | inr f => exact ⟨fun h => absurd (h6.1.symm.trans h) h6.2.2, fun ⟨p, hp⟩ => by cases hp⟩
theorem g163 {lo hi : Int} (hK : K.1 = 923) (hX : FX M) (h : TM B n M st) (k : ∀ M', FX M' → (FrM M M' ∧ TM B n M' (tNum B n lo hi st).2) → Q (.inl (some (vI (okv (tNum B n lo hi st))))) M' K) : Wm (d + 2) 163 [vR 440, vI lo, vI hi] M K Q := by
  refine u163_0 hK hX ⟨fun h0 => ⟨B, n, st, h, fun M1 x1 p1 => ⟨B, n, ⟨p1.2.1.1, by obtain ⟨-, a, ha, -⟩ := p1.2.1; omega⟩, ?_⟩⟩, fun h0 => ?_⟩
  · obtain ⟨p, rfl⟩ := (TM_0 h).mp h0
    have hat : M1 440 4 = (p : Int) := p1.2.2
    obtain ⟨hsb, a, h4, h5, h6⟩ := p1.2.1
    have hap : a = p := by omega
    subst hap
    have h600 := hsb.2.1
    rw [hat]
    -- the value's range, asked at the end
    have tail : ∀ (v : Int) (st' : ST) (M2 : Mem), FX M2 → FrM M M2 → TM B n M2 st' → (∃ q : Nat, a ≤ q ∧ M2 440 4 = (q : Int) ∧ ¬ isD (bt B n (q : Int)) = true) → ((lo ≤ v ∧ v ≤ hi) → (tNum B n lo hi (.inl a)).2 = st' ∧ (∀ p', st' = .inl p' → (tNum B n lo hi (.inl a)).1 = v)) → (¬ (lo ≤ v ∧ v ≤ hi) → (tNum B n lo hi (.inl a)).2 = tFail 2 (a : Int) st') → Wp (d + 2) 163 44 [vR 440, vI lo, vI hi, vI (a : Int), vI v] [] M2 K Q := by
      intro v st' M2 x2 f2 t2 ⟨q, haq, hat2, hnd⟩ e1 e2
      rw [hat2.symm] at hnd
      refine u163_44 hK x2 ⟨B, n, ⟨t2.1, by omega⟩, fun _ => ⟨fun hin => ?_, fun hout => ⟨B, n, st', ⟨t2, by decide⟩, fun M3 x3 p3 => ?_⟩⟩, fun hd => absurd hd hnd⟩
      · obtain ⟨e1a, e1b⟩ := e1 hin
        have kk := k M2 x2 ⟨f2, by rw [e1a]; exact t2⟩
        refine ⟨fun hne => ?_, fun heq => ?_⟩
        · cases st' with
          | inl p' => exact absurd ((TM_0 t2).mpr ⟨p', rfl⟩) hne
          | inr f => simp only [okv, e1a] at kk; exact kk
        · obtain ⟨p', rfl⟩ := (TM_0 t2).mp heq
          simp only [okv, e1a, e1b p' rfl] at kk; exact kk
      · have kk := k M3 x3 ⟨f2.tr p3.1, by rw [e2 hout]; exact p3.2.1⟩
        have hf : ∃ f, tFail 2 (a : Int) st' = .inr f := by cases st' with
          | inl _ => exact ⟨_, rfl⟩
          | inr f => exact ⟨_, rfl⟩
        obtain ⟨f, hf⟩ := hf
        refine ⟨fun hne => ?_, fun heq => ?_⟩
        · simp only [okv, e2 hout, hf] at kk; exact kk
        · obtain ⟨p', hp'⟩ := (TM_0 p3.2.1).mp heq
          rw [hf] at hp'; cases hp'
    refine ⟨fun hd => ?_, fun hd => ⟨B, n, .inl a, ⟨p1.2.1, by decide⟩, fun M2 x2 p2 => ?_⟩⟩
    · have han : a < n := by
        by_cases hh : a < n
        · exact hh
        · rw [bt_ge (by omega)] at hd; exact absurd hd isD_m1
      have hda : isD (B a) = true := by rw [bt_lt han] at hd; exact hd
      have := mloop (P := isD) (L := fun q => [vR 440, vI lo, vI hi, vI (a : Int), vI (nv B a (q - a))]) (D := d + 2) (m := 163) (pc := 44) (K := K) (Q := Q) hsb h5 hat ?_ ?_
      · rw [Nat.sub_self] at this; exact this
      · intro q haq hqn hsp hno M2 hf hat2
        have x2 := hf.fr.fx x1
        have hE : tNum B n lo hi (.inl a) = if nv B a (q - a) < lo ∨ hi < nv B a (q - a) then (lo, .inr (2, (a : Int))) else (nv B a (q - a), .inl (sk B n q)) := by
          simp only [tNum]; rw [if_pos ⟨han, hda⟩, hsp]
        refine tail _ (.inl (sk B n q)) M2 x2 (p1.1.tr hf.fr) ⟨hsb.fr hf.fr, q, hat2, hqn, (hf 440 5 (by decide)).trans h6.1, rfl⟩ ⟨q, haq, hat2, bt_no isD_m1 hno⟩ (fun hin => ?_) (fun hout => ?_)
        · rw [hE, if_neg (by omega)]; exact ⟨rfl, fun _ _ => rfl⟩
        · rw [hE, if_pos (by omega)]; rfl
      · intro q haq hqn hp hall M2 hf hat2 hgo
        have x2 := hf.fr.fx x1
        have hdd := isD_iff.mp hp
        have hnv := nv_bd (B := B) (p := a) (k := q - a) (fun x h1 h2 => hall x h1 (by omega))
        have hbt : bt B n (M2 440 4) = B q := by rw [hat2, bt_lt hqn]
        have e1 : w32 (w32 (w32 (10 * nv B a (q - a)) + bt B n (M2 440 4)) - 48) = 10 * nv B a (q - a) + B q - 48 := by
          rw [hbt, w32_id (z := 10 * nv B a (q - a)) (by omega), w32_id (z := 10 * nv B a (q - a) + B q) (by omega), w32_id (by omega)]
        have e2 : nv B a (q + 1 - a) = min 100000 (10 * nv B a (q - a) + B q - 48) := by
          rw [show q + 1 - a = (q - a) + 1 from by omega]
          simp only [nv]
          rw [show a + (q - a) = q from by omega]
        refine u163_44 hK x2 ⟨B, n, ⟨hsb.fr hf.fr, by omega⟩, fun hnd => ?_, fun _ => ⟨B, n, ⟨hsb.fr hf.fr, by omega⟩, fun hle => ?_, fun hgt => ?_⟩⟩
        · rw [hbt] at hnd; exact absurd hp hnd
        · rw [e1] at hle ⊢
          rwa [e2, show min 100000 (10 * nv B a (q - a) + B q - 48) = 10 * nv B a (q - a) + B q - 48 from by omega] at hgo
        · rw [e1] at hgt
          rwa [e2, show min 100000 (10 * nv B a (q - a) + B q - 48) = 100000 from by omega] at hgo
    · have hnd : ¬ (a < n ∧ isD (B a) = true) := by
        rintro ⟨h1, h2⟩
        rw [bt_lt h1] at hd; exact hd h2
      have hE : tNum B n lo hi (.inl a) = (lo, .inr (1, (a : Int))) := by
        simp only [tNum]; rw [if_neg hnd]
      refine tail 0 (.inr (1, (a : Int))) M2 x2 (p1.1.tr p2.1) p2.2.1 ⟨a, Nat.le_refl _, p2.2.2, hd⟩ (fun _ => by rw [hE]; exact ⟨rfl, fun p' hp' => by cases hp'⟩) (fun _ => by rw [hE]; rfl)
  · cases st with
    | inl p => exact absurd ((TM_0 h).mpr ⟨p, rfl⟩) h0
    | inr f => exact k M hX ⟨FrM.rf, h⟩
end MC
/-! words as numbers -/
def enc (l : List Int) : Int := l.foldl (fun v x => 27 * v + (x - 96)) 0
theorem enc_snoc {l : List Int} {x : Int} : enc (l ++ [x]) = 27 * enc l + (x - 96) := by
  unfold enc; rw [List.foldl_append]; rfl
def okL (l : List Int) : Prop := ∀ x ∈ l, 97 ≤ x ∧ x ≤ 122
theorem enc_nn : ∀ (k : Nat) (l : List Int), l.length = k → okL l → 0 ≤ enc l ∧ enc l < 27 ^ k ∧ (0 < k → 0 < enc l) := by
  intro k
  induction k with
  | zero => intro l hl _; have := List.eq_nil_of_length_eq_zero hl; subst this; exact ⟨by decide, by decide, fun h => by omega⟩
  | succ k ih =>
    intro l hl ho
    have hne : l ≠ [] := by intro h; subst h; simp at hl
    obtain ⟨l', x, rfl⟩ : ∃ l' x, l = l' ++ [x] := ⟨l.dropLast, l.getLast hne, (List.dropLast_concat_getLast hne).symm⟩
    have h1 := ih l' (by simpa using hl) (fun y hy => ho y (List.mem_append_left _ hy))
    have hx := ho x (by simp)
    rw [enc_snoc, Int.pow_succ]
    omega
theorem enc_inj : ∀ (k : Nat) (l m : List Int), l.length ≤ k → okL l → okL m → enc l = enc m → l = m := by
  intro k
  induction k with
  | zero =>
    intro l m hl ho hm he
    have := List.eq_nil_of_length_eq_zero (Nat.le_zero.mp hl); subst this
    by_cases h : m = []
    · exact h.symm
    · have := (enc_nn m.length m rfl hm).2.2 (List.length_pos_iff.mpr h)
      rw [← he] at this
      exact absurd this (by decide)
  | succ k ih =>
    intro l m hl ho hm he
    by_cases h1 : l = []
    · subst h1
      by_cases h : m = []
      · exact h.symm
      · have := (enc_nn m.length m rfl hm).2.2 (List.length_pos_iff.mpr h)
        rw [← he] at this
        exact absurd this (by decide)
    · by_cases h2 : m = []
      · subst h2
        have := (enc_nn l.length l rfl ho).2.2 (List.length_pos_iff.mpr h1)
        rw [he] at this
        exact absurd this (by decide)
      · obtain ⟨l', x, rfl⟩ : ∃ l' x, l = l' ++ [x] := ⟨l.dropLast, l.getLast h1, (List.dropLast_concat_getLast h1).symm⟩
        obtain ⟨m', y, rfl⟩ : ∃ l' x, m = l' ++ [x] := ⟨m.dropLast, m.getLast h2, (List.dropLast_concat_getLast h2).symm⟩
        rw [enc_snoc, enc_snoc] at he
        have hx := ho x (by simp)
        have hy := hm y (by simp)
        have : enc l' = enc m' ∧ x = y := by omega
        rw [ih l' m' (by simp at hl; omega) (fun z hz => ho z (List.mem_append_left _ hz)) (fun z hz => hm z (List.mem_append_left _ hz)) this.1, this.2]
theorem wdL_ok {B : BY} {n p q : Nat} (h : ∀ x, p ≤ x → x < q → isS (B x) = true) : okL (wdL B p q) := by
  intro x hx
  unfold wdL at hx
  obtain ⟨i, hi, rfl⟩ := List.mem_map.mp hx
  have := List.mem_range.mp hi
  exact isS_iff.mp (h (p + i) (by omega) (by omega))
theorem wdL_snoc {B : BY} {p q : Nat} (h : p ≤ q) : wdL B p (q + 1) = wdL B p q ++ [B q] := by
  unfold wdL
  rw [show q + 1 - p = (q - p) + 1 from by omega, List.range_succ, List.map_append, List.map_cons, List.map_nil, show p + (q - p) = q from by omega]
theorem wdL_len {B : BY} {p q : Nat} : (wdL B p q).length = q - p := by unfold wdL; simp
theorem wL_ok : ∀ s, s < 27 → 2 ≤ s → s < 25 → (wL s).all (fun x => decide (97 ≤ x) && decide (x ≤ 122)) = true ∧ (wL s).length ≤ 6 := by decide +kernel
theorem wL_okL {s : Nat} (h : 2 ≤ s ∧ s < 25) : okL (wL s) := by
  intro x hx
  have := List.all_eq_true.mp (wL_ok s (by omega) h.1 h.2).1 x hx
  simpa using this
def sixV (a b c d e f : Int) : Int := let v := 27 * (27 * a + b) + c; let v := if d = 0 then v else 27 * v + d; let v := if e = 0 then v else 27 * v + e; if f = 0 then v else 27 * v + f
/-- the word at the state is the string s -/
def isWd (B : BY) (n : Nat) (st : ST) (s : Nat) : Bool := match st with
  | .inl p => decide (wdL B p (sp isS B n p) = wL s)
  | .inr _ => false
section MD
variable {d : Nat} {M : Mem} {K : KK} {Q : RR → Mem → KK → Prop} {B : BY} {n : Nat} {st : ST}
theorem g165 {a b c x e f : Int} (hK : K.1 = 923) (hX : FX M) (h : (0 ≤ a ∧ a ≤ 26) ∧ (0 ≤ b ∧ b ≤ 26) ∧ (0 ≤ c ∧ c ≤ 26) ∧ (0 ≤ x ∧ x ≤ 26) ∧ (0 ≤ e ∧ e ≤ 26) ∧ (0 ≤ f ∧ f ≤ 26)) (k : Q (.inl (some (vI (sixV a b c x e f)))) M K) : Wm d 165 [vI a, vI b, vI c, vI x, vI e, vI f] M K Q := by
  have e1 : w32 (w32 (27 * w32 (w32 (27 * a) + b)) + c) = 27 * (27 * a + b) + c := by
    rw [w32_id (z := 27 * a) (by omega), w32_id (z := 27 * a + b) (by omega), w32_id (z := 27 * (27 * a + b)) (by omega), w32_id (by omega)]
  have st2 : ∀ (v : Int) (l6 : Int), (0 ≤ v ∧ v ≤ 600000) → (if f = 0 then (if e = 0 then v else 27 * v + e) else 27 * (if e = 0 then v else 27 * v + e) + f) = sixV a b c x e f → Wp d 165 29 [vI a, vI b, vI c, vI x, vI e, vI f, vI l6] [vI v] M K Q := by
    intro v l6 hv he
    refine u165_29 hK hX ⟨fun h1 => ⟨fun h2 => ?_, fun h2 => ?_⟩, fun h1 => ⟨fun h2 => ?_, fun h2 => ?_⟩⟩
    · rw [if_neg h2, if_neg h1] at he
      rw [w32_id (z := 27 * v) (by omega), w32_id (z := 27 * v + e) (by omega), w32_id (z := 27 * (27 * v + e)) (by omega), w32_id (by omega), he]; exact k
    · rw [if_pos h2, if_neg h1] at he
      rw [w32_id (z := 27 * v) (by omega), w32_id (z := 27 * v + e) (by omega), he]; exact k
    · rw [if_neg h2, if_pos h1] at he
      rw [w32_id (z := 27 * v) (by omega), w32_id (z := 27 * v + f) (by omega), he]; exact k
    · rw [if_pos h2, if_pos h1] at he
      rw [he]; exact k
  refine u165_0 hK hX ⟨fun h1 => ?_, fun h1 => ?_⟩
  · rw [e1, w32_id (z := 27 * (27 * (27 * a + b) + c)) (by omega), w32_id (z := 27 * (27 * (27 * a + b) + c) + x) (by omega)]
    refine st2 _ _ (by omega) ?_
    unfold sixV; simp only [if_neg h1]
  · rw [e1]
    refine st2 _ _ (by omega) ?_
    unfold sixV; simp only [if_pos h1]
/-- what wordHere answers for a word -/
def wcode (l : List Int) : Int := if l.length ≤ 6 then enc l else -1
theorem g164 {p : Nat} (hK : K.1 = 923) (hX : FX M) (h : TM B n M (.inl p)) (k : ∀ M', FX M' → (FrM M M' ∧ TM B n M' (.inl p) ∧ AtM M' (.inl p)) → Q (.inl (some (vI (wcode (wdL B p (sp isS B n p)))))) M' K) : Wm (d + 2) 164 [vR 440] M K Q := by
  refine u164_0 hK hX ⟨B, n, .inl p, h, fun M1 x1 p1 => ?_⟩
  have kk := k M1 x1 p1
  have hat : M1 440 4 = (p : Int) := p1.2.2
  obtain ⟨hsb, a, h4, h5, h6⟩ := p1.2.1
  have hap : a = p := by omega
  subst hap
  have h600 := hsb.2.1
  have key : ∀ q, q ≤ n → (a ≤ q → (∀ x, a ≤ x → x < q → isS (B x) = true) → sp isS B n a = sp isS B n q → ∀ v : Int, v = enc (wdL B a (min q (a + 6))) → Wp (d + 2) 164 8 [vR 440, vI v, vI ((q - a : Nat) : Int)] [] M1 K Q) := by
    refine sp_ind (P := isS) (B := B) ?_ ?_
    · intro q hq hno haq hall hsp v hv
      have hqq : sp isS B n q = q := by
        by_cases hh : q < n
        · exact sp_no (hno hh)
        · exact sp_end (by omega)
      have e1 : w32 (M1 440 4 + ((q - a : Nat) : Int)) = (q : Int) := by rw [hat, w32_id (by omega)]; omega
      rw [hsp, hqq] at kk
      refine u164_8 hK x1 ⟨B, n, ⟨hsb, by rw [e1]; omega⟩, fun _ => ⟨fun h6 => ?_, fun h6 => ?_⟩, fun hs => ?_⟩
      · unfold wcode at kk
        rw [wdL_len, if_pos (by omega)] at kk
        rw [hv, show min q (a + 6) = q from by omega]; exact kk
      · unfold wcode at kk
        rw [wdL_len, if_neg (by omega)] at kk
        exact kk
      · rw [e1] at hs; exact absurd hs (bt_no isS_m1 hno)
    · intro q hq hs ih haq hall hsp v hv
      have e1 : w32 (M1 440 4 + ((q - a : Nat) : Int)) = (q : Int) := by rw [hat, w32_id (by omega)]; omega
      have hall' : ∀ x, a ≤ x → x < q + 1 → isS (B x) = true := by
        intro x h1 h2
        by_cases hx : x = q
        · subst hx; exact hs
        · exact hall x h1 (by omega)
      have e2 : w32 (((q - a : Nat) : Int) + 1) = ((q + 1 - a : Nat) : Int) := by rw [w32_id (by omega)]; omega
      refine u164_8 hK x1 ⟨B, n, ⟨hsb, by rw [e1]; omega⟩, fun hns => ?_, fun _ => ⟨fun h6 => ?_, fun h6 => ⟨B, n, ⟨hsb, by rw [e1]; omega⟩, ?_⟩⟩⟩
      · rw [e1, bt_lt hq] at hns; exact absurd hs hns
      · rw [e2]
        refine ih (by omega) hall' (hsp.trans (sp_go hq hs)) v ?_
        rw [hv, show min (q + 1) (a + 6) = min q (a + 6) from by omega]
      · rw [e2, e1, bt_lt hq]
        have hss := isS_iff.mp hs
        have hen := enc_nn _ (wdL B a q) rfl (wdL_ok (n := n) hall)
        rw [wdL_len] at hen
        have hb : (27 : Int) ^ (q - a) ≤ 27 ^ 5 := by
          have h5' : q - a ≤ 5 := by omega
          generalize q - a = j at h5'
          rcases (show j = 0 ∨ j = 1 ∨ j = 2 ∨ j = 3 ∨ j = 4 ∨ j = 5 by omega) with rfl | rfl | rfl | rfl | rfl | rfl <;> decide
        have h55 : (27 : Int) ^ 5 = 14348907 := by decide
        rw [h55] at hb
        have hv' : v = enc (wdL B a q) := by rw [hv, show min q (a + 6) = q from by omega]
        have ev : w32 (w32 (w32 (w32 (27 * v) + B q) - 97) + 1) = 27 * v + (B q - 96) := by
          rw [hv', w32_id (z := 27 * enc (wdL B a q)) (by omega), w32_id (z := 27 * enc (wdL B a q) + B q) (by omega), w32_id (z := 27 * enc (wdL B a q) + B q - 97) (by omega), w32_id (by omega)]
          omega
        rw [ev]
        refine ih (by omega) hall' (hsp.trans (sp_go hq hs)) _ ?_
        rw [show min (q + 1) (a + 6) = q + 1 from by omega, wdL_snoc haq, enc_snoc, hv']
  have := key a h5 (Nat.le_refl _) (fun x _ _ => by omega) rfl 0 (by rw [show min a (a + 6) = a from by omega]; unfold wdL; simp [enc])
  rw [Nat.sub_self] at this
  exact this
theorem wcode_eq {p s : Nat} (hp : p ≤ n) (hs : 2 ≤ s ∧ s < 25) : wcode (wdL B p (sp isS B n p)) = enc (wL s) ↔ wdL B p (sp isS B n p) = wL s := by
  have ho := wdL_ok (B := B) (n := n) (p := p) (q := sp isS B n p) (sp_in hp)
  have hw := wL_okL hs
  have hl := (wL_ok s (by omega) hs.1 hs.2).2
  constructor
  · intro h
    unfold wcode at h
    split at h
    · exact enc_inj _ _ _ (Nat.le_refl _) ho hw h
    · have := (enc_nn _ _ rfl hw).1
      omega
  · intro h
    unfold wcode
    rw [h, if_pos hl]
end MD
theorem u166_0 {d : Nat} {l1 : Int} {l2 : Int} {l3 : Int} {l4 : Int} {l5 : Int} {l6 : Int} {M : Mem} {K : KK} {Q : RR → Mem → KK → Prop} (hK : K.1 = 923) (hX : FX M)  (h : (¬ (M 440 5) = (0 : Int) → Q (.inl (some (vI (0 : Int)))) M K) ∧ ((M 440 5) = (0 : Int) → ∃ B3 : BY, ∃ n4 : Nat, ∃ p5 : Nat, TM B3 n4 M (.inl p5) ∧ (∀ (M9 : Mem), FX M9 → (FrM M M9 ∧ TM B3 n4 M9 (.inl p5) ∧ AtM M9 (.inl p5)) → ((0 ≤ l1 ∧ l1 ≤ 26) ∧ (0 ≤ l2 ∧ l2 ≤ 26) ∧ (0 ≤ l3 ∧ l3 ≤ 26) ∧ (0 ≤ l4 ∧ l4 ≤ 26) ∧ (0 ≤ l5 ∧ l5 ≤ 26) ∧ (0 ≤ l6 ∧ l6 ≤ 26)) ∧ (¬ (wcode (wdL B3 p5 (sp isS B3 n4 p5))) = (sixV l1 l2 l3 l4 l5 l6) → Q (.inl (some (vI (0 : Int)))) M9 K) ∧ ((wcode (wdL B3 p5 (sp isS B3 n4 p5))) = (sixV l1 l2 l3 l4 l5 l6) → Q (.inl (some (vI (1 : Int)))) M9 K)))) : Wp (d + 3) 166 0 [vR 440, vI l1, vI l2, vI l3, vI l4, vI l5, vI l6] [] M K Q := by
  refine r_aload_n c166_0 rfl ?_
  refine r_getIe c166_1 (oK hK o440) rfl ?_
  refine r_ifP (P := ¬ (M 440 5) = (0 : Int)) c166_4 rfl (fun hc1 => ?_) (fun hc1 => ?_)
  · replace h := h.1 hc1
    refine r_iconst c166_30 ?_
    exact r_iret c166_31 (by decide) h
  · have hc2 := Classical.not_not.mp hc1
    replace h := h.2 hc2
    refine r_aload_n c166_7 rfl ?_
    obtain ⟨B3, h⟩ := h
    obtain ⟨n4, h⟩ := h
    obtain ⟨p5, h⟩ := h
    obtain ⟨p6, h⟩ := h
    refine r_call c166_8 rfl rfl (Nat.le_of_ble_eq_true rfl) (okc_r rfl rfl (oK hK o440)) (g164 hK hX p6 (fun M9 x7 p8 => Bk_v ?_))
    replace h := h M9 x7 p8
    refine r_iload_n c166_11 rfl ?_
    refine r_iload_n c166_12 rfl ?_
    refine r_iload_n c166_13 rfl ?_
    refine r_iload c166_14 rfl ?_
    refine r_iload c166_16 rfl ?_
    refine r_iload c166_18 rfl ?_
    obtain ⟨p10, h⟩ := h
    refine r_call c166_20 rfl rfl (Nat.le_of_ble_eq_true rfl) (okc_s rfl rfl rfl) (g165 hK x7 p10 (Bk_v ?_))
    refine r_icmpP (P := ¬ (wcode (wdL B3 p5 (sp isS B3 n4 p5))) = (sixV l1 l2 l3 l4 l5 l6)) c166_23 rfl (fun hc11 => ?_) (fun hc11 => ?_)
    · replace h := h.1 hc11
      refine r_iconst c166_30 ?_
      exact r_iret c166_31 (by decide) h
    · have hc12 := Classical.not_not.mp hc11
      replace h := h.2 hc12
      refine r_iconst c166_26 ?_
      refine r_goto c166_27 ?_
      exact r_iret c166_31 (by decide) h

abbrev WC (a b c x e f : Int) (s : Nat) : Prop := ((0 ≤ a ∧ a ≤ 26) ∧ (0 ≤ b ∧ b ≤ 26) ∧ (0 ≤ c ∧ c ≤ 26) ∧ (0 ≤ x ∧ x ≤ 26) ∧ (0 ≤ e ∧ e ≤ 26) ∧ (0 ≤ f ∧ f ≤ 26)) ∧ (2 ≤ s ∧ s < 25) ∧ sixV a b c x e f = enc (wL s)
section ME
variable {d : Nat} {M : Mem} {K : KK} {Q : RR → Mem → KK → Prop} {B : BY} {n : Nat} {st : ST}
theorem g166 {a b c x e f : Int} {s : Nat} (hK : K.1 = 923) (hX : FX M) (h : TM B n M st ∧ WC a b c x e f s) (k : ∀ M', FX M' → (FrM M M' ∧ TM B n M' st ∧ AtM M' st) → Q (.inl (some (vI (bI (isWd B n st s = true))))) M' K) : Wm (d + 3) 166 [vR 440, vI a, vI b, vI c, vI x, vI e, vI f] M K Q := by
  obtain ⟨ht, hr, hs, he⟩ := h
  refine u166_0 hK hX ⟨fun h0 => ?_, fun h0 => ?_⟩
  · cases st with
    | inl p => exact absurd ((TM_0 ht).mpr ⟨p, rfl⟩) h0
    | inr f =>
      have := k M hX ⟨FrM.rf, ht, trivial⟩
      rwa [bI_f (by simp [isWd])] at this
  · obtain ⟨p, rfl⟩ := (TM_0 ht).mp h0
    refine ⟨B, n, p, ht, fun M1 x1 p1 => ⟨hr, fun hne => ?_, fun heq => ?_⟩⟩
    · have hpn : p ≤ n := by obtain ⟨-, a, ha, h5, -, h6⟩ := ht; rw [← h6]; exact (sp_ge h5).2
      have := k M1 x1 p1
      rwa [bI_f] at this
      intro hw
      simp only [isWd, decide_eq_true_eq] at hw
      exact hne (by rw [he]; exact (wcode_eq hpn hs).mpr hw)
    · have hpn : p ≤ n := by obtain ⟨-, a, ha, h5, -, h6⟩ := ht; rw [← h6]; exact (sp_ge h5).2
      have := k M1 x1 p1
      rwa [bI_t] at this
      simp only [isWd, decide_eq_true_eq]
      exact (wcode_eq hpn hs).mp (by rw [← he]; exact heq)
theorem g167 (hK : K.1 = 923) (hX : FX M) (h : TM B n M st ∧ AtM M st) (k : ∀ M', FX M' → (FrM M M' ∧ TM B n M' (tWord B n st)) → Q (.inl none) M' K) : Wm (d + 1) 167 [vR 440] M K Q := by
  obtain ⟨⟨hsb, a, h4, h5, h6⟩, hat⟩ := h
  refine mloop (P := isS) (L := fun _ => [vR 440]) (D := d + 1) (m := 167) (pc := 0) hsb h5 h4 ?_ ?_
  · intro q haq hqn hsp hno M2 hf hat2
    have x2 := hf.fr.fx hX
    refine u167_0 hK x2 ⟨B, n, ⟨hsb.fr hf.fr, by omega⟩, fun _ => ?_, fun hs => ?_⟩
    · refine k M2 x2 ⟨hf.fr, hsb.fr hf.fr, q, hat2, hqn, ?_⟩
      cases st with
      | inl p =>
        have hap : a = p := by
          have : M 440 4 = (p : Int) := hat
          omega
        subst hap
        exact ⟨(hf 440 5 (by decide)).trans h6.1, by rw [hsp]⟩
      | inr f => exact ⟨(hf 440 5 (by decide)).trans h6.1, (hf 440 6 (by decide)).trans h6.2.1, h6.2.2⟩
    · rw [hat2] at hs
      exact absurd hs (bt_no isS_m1 hno)
  · intro q haq hqn hp hall M2 hf hat2 hgo
    have x2 := hf.fr.fx hX
    refine u167_0 hK x2 ⟨B, n, ⟨hsb.fr hf.fr, by omega⟩, fun hns => ?_, fun _ => hgo⟩
    rw [hat2, bt_lt hqn] at hns
    exact absurd hp hns
end ME
theorem u168_0 {d : Nat} {l1 : Int} {l2 : Int} {l3 : Int} {l4 : Int} {l5 : Int} {l6 : Int} {M : Mem} {K : KK} {Q : RR → Mem → KK → Prop} (hK : K.1 = 923) (hX : FX M)  (h : ∃ B1 : BY, ∃ n2 : Nat, ∃ st3 : ST, ∃ s4 : Nat, (TM B1 n2 M st3 ∧ WC l1 l2 l3 l4 l5 l6 s4) ∧ (∀ (M8 : Mem), FX M8 → (FrM M M8 ∧ TM B1 n2 M8 st3 ∧ AtM M8 st3) → (¬ (isWd B1 n2 st3 s4 = true) → Q (.inl (some (vI (bI (isWd B1 n2 st3 s4 = true))))) M8 K) ∧ ((isWd B1 n2 st3 s4 = true) → ∃ B11 : BY, ∃ n12 : Nat, ∃ st13 : ST, (TM B11 n12 M8 st13 ∧ AtM M8 st13) ∧ (∀ (M17 : Mem), FX M17 → (FrM M8 M17 ∧ TM B11 n12 M17 (tWord B11 n12 st13)) → Q (.inl (some (vI (bI (isWd B1 n2 st3 s4 = true))))) M17 K)))) : Wp (d + 4) 168 0 [vR 440, vI l1, vI l2, vI l3, vI l4, vI l5, vI l6, vU] [] M K Q := by
  refine r_aload_n c168_0 rfl ?_
  refine r_iload_n c168_1 rfl ?_
  refine r_iload_n c168_2 rfl ?_
  refine r_iload_n c168_3 rfl ?_
  refine r_iload c168_4 rfl ?_
  refine r_iload c168_6 rfl ?_
  refine r_iload c168_8 rfl ?_
  obtain ⟨B1, h⟩ := h
  obtain ⟨n2, h⟩ := h
  obtain ⟨st3, h⟩ := h
  obtain ⟨s4, h⟩ := h
  obtain ⟨p5, h⟩ := h
  refine r_call c168_10 rfl rfl (Nat.le_of_ble_eq_true rfl) (okc_r rfl rfl (oK hK o440)) (g166 hK hX p5 (fun M8 x6 p7 => Bk_v ?_))
  replace h := h M8 x6 p7
  refine r_istore c168_13 (Nat.le_of_ble_eq_true rfl) ?_
  refine r_iload c168_15 rfl ?_
  refine r_ifP (P := ¬ (isWd B1 n2 st3 s4 = true)) c168_17 bI_eq (fun hc9 => ?_) (fun hc9 => ?_)
  · replace h := h.1 hc9
    refine r_iload c168_24 rfl ?_
    exact r_iret c168_26 (Or.inr bI_01) h
  · have hc10 := Classical.not_not.mp hc9
    replace h := h.2 hc10
    refine r_aload_n c168_20 rfl ?_
    obtain ⟨B11, h⟩ := h
    obtain ⟨n12, h⟩ := h
    obtain ⟨st13, h⟩ := h
    obtain ⟨p14, h⟩ := h
    refine r_call c168_21 rfl rfl (Nat.le_of_ble_eq_true rfl) (okc_r rfl rfl (oK hK o440)) (g167 hK x6 p14 (fun M17 x15 p16 => Bk_n ?_))
    replace h := h M17 x15 p16
    refine r_iload c168_24 rfl ?_
    exact r_iret c168_26 (Or.inr bI_01) h
section MF
variable {d : Nat} {M : Mem} {K : KK} {Q : RR → Mem → KK → Prop} {B : BY} {n : Nat} {st : ST}
/-- the state behind a word that is asked for -/
def tTakes (B : BY) (n : Nat) (st : ST) (s : Nat) : ST := if isWd B n st s = true then tWord B n st else st
theorem g168 {a b c x e f : Int} {s : Nat} (hK : K.1 = 923) (hX : FX M) (h : TM B n M st ∧ WC a b c x e f s) (k : ∀ M', FX M' → (FrM M M' ∧ TM B n M' (tTakes B n st s) ∧ (¬ isWd B n st s = true → AtM M' st)) → Q (.inl (some (vI (bI (isWd B n st s = true))))) M' K) : Wm (d + 4) 168 [vR 440, vI a, vI b, vI c, vI x, vI e, vI f] M K Q := by
  refine u168_0 hK hX ⟨B, n, st, s, h, fun M1 x1 p1 => ⟨fun hn => ?_, fun hy => ⟨B, n, st, p1.2, fun M2 x2 p2 => ?_⟩⟩⟩
  · refine k M1 x1 ⟨p1.1, ?_, fun _ => p1.2.2⟩
    unfold tTakes; rw [if_neg hn]; exact p1.2.1
  · refine k M2 x2 ⟨p1.1.tr p2.1, ?_, fun hn => absurd hy hn⟩
    unfold tTakes; rw [if_pos hy]; exact p2.2
theorem TM_skip {p : Nat} (h : TM B n M (.inl p)) (hat : AtM M (.inl p)) (hp : p < n) : TM B n (mset M 440 4 (w32 (M 440 4 + 1))) (.inl (sk B n (p + 1))) := by
  obtain ⟨hsb, a, h4, h5, h6⟩ := h
  have hat : M 440 4 = (p : Int) := hat
  have h600 := hsb.2.1
  refine ⟨hsb.fr (FrM.rf.up (by decide)), p + 1, ?_, by omega, (ms_nk (by decide)).trans h6.1, rfl⟩
  rw [ms_eq, hat, w32_id (by omega)]; omega
theorem pk_bt {p : Nat} : bt B n (p : Int) = pk B n (.inl p) := by
  simp only [pk]
  by_cases h : p < n
  · rw [bt_lt h, if_pos h]
  · rw [bt_ge (by omega), if_neg h]
theorem g169 {c : Int} (hK : K.1 = 923) (hX : FX M) (h : TM B n M st ∧ c ≠ -1) (k : ∀ M', FX M' → (FrM M M' ∧ TM B n M' (tSign B n c st)) → Q (.inl none) M' K) : Wm (d + 2) 169 [vR 440, vI c] M K Q := by
  refine u169_0 hK hX ⟨fun h0 => ⟨B, n, st, h.1, fun M1 x1 p1 => ⟨B, n, ⟨p1.2.1.1, by obtain ⟨-, a, ha, -⟩ := p1.2.1; omega⟩, fun hne => ?_, fun he => ?_⟩⟩, fun h0 => ?_⟩
  · obtain ⟨p, rfl⟩ := (TM_0 h.1).mp h0
    have hat : M1 440 4 = (p : Int) := p1.2.2
    refine ⟨B, n, _, ⟨p1.2.1, by decide⟩, fun M2 x2 p2 => k M2 x2 ⟨p1.1.tr p2.1, ?_⟩⟩
    rw [hat, pk_bt, pk_ok h.2] at hne
    simp only [tSign]; rw [if_neg hne]
    have := p2.2.1
    rw [hat] at this; exact this
  · obtain ⟨p, rfl⟩ := (TM_0 h.1).mp h0
    have hat : M1 440 4 = (p : Int) := p1.2.2
    rw [hat, pk_bt, pk_ok h.2] at he
    refine k _ ?_ ⟨p1.1.tr (FrM.rf.up (by decide)), ?_⟩
    · exact (FrM.up (v := w32 (M1 440 4 + 1)) (k := 4) FrM.rf (by decide)).fx x1
    · simp only [tSign]; rw [if_pos he]
      exact TM_skip p1.2.1 p1.2.2 he.1
  · cases st with
    | inl p => exact absurd ((TM_0 h.1).mpr ⟨p, rfl⟩) h0
    | inr f => exact k M hX ⟨FrM.rf, h.1⟩
/-- the state behind a sign that is taken if it is there -/
def tTake (B : BY) (n : Nat) (c : Int) (st : ST) : ST := if pk B n st = c then tSkip B n st else st
theorem g170 {c : Int} (hK : K.1 = 923) (hX : FX M) (h : TM B n M st ∧ c ≠ -1) (k : ∀ M', FX M' → (FrM M M' ∧ TM B n M' (tTake B n c st)) → Q (.inl (some (vI (bI (pk B n st = c))))) M' K) : Wm (d + 2) 170 [vR 440, vI c] M K Q := by
  refine u170_0 hK hX ⟨fun h0 => ⟨B, n, st, h.1, fun M1 x1 p1 => ⟨B, n, ⟨p1.2.1.1, by obtain ⟨-, a, ha, -⟩ := p1.2.1; omega⟩, fun hne => ?_, fun he => ?_⟩⟩, fun h0 => ?_⟩
  · obtain ⟨p, rfl⟩ := (TM_0 h.1).mp h0
    have hat : M1 440 4 = (p : Int) := p1.2.2
    rw [hat, pk_bt] at hne
    have := k M1 x1 ⟨p1.1, by unfold tTake; rw [if_neg hne]; exact p1.2.1⟩
    rwa [bI_f hne] at this
  · obtain ⟨p, rfl⟩ := (TM_0 h.1).mp h0
    have hat : M1 440 4 = (p : Int) := p1.2.2
    rw [hat, pk_bt] at he
    have he' := (pk_ok h.2).mp he
    have := k _ ((FrM.up (v := w32 (M1 440 4 + 1)) (k := 4) FrM.rf (by decide)).fx x1) ⟨p1.1.tr (FrM.rf.up (by decide)), by unfold tTake; rw [if_pos he]; simp only [tSkip]; rw [if_pos he'.1]; exact TM_skip p1.2.1 p1.2.2 he'.1⟩
    rwa [bI_t he] at this
  · cases st with
    | inl p => exact absurd ((TM_0 h.1).mpr ⟨p, rfl⟩) h0
    | inr f =>
      have hne : ¬ pk B n (.inr f) = c := fun e => h.2 e.symm
      have := k M hX ⟨FrM.rf, by unfold tTake; rw [if_neg hne]; exact h.1⟩
      rwa [bI_f hne] at this
/-- what a new reading changes of the model -/
def FrS (M M' : Mem) : Prop := ∀ a k, ¬ (a = 440 ∧ (k = 1 ∨ k = 2 ∨ (4 ≤ k ∧ k ≤ 8))) → M' a k = M a k
theorem g171 {m : Int} {n : Nat} (hK : K.1 = 923) (hX : FX M) (h : m = (n : Int) ∧ n ≤ 600) (k : ∀ M', FX M' → (FrS M M' ∧ TM (M 441) n M' (.inl (sk (M 441) n 0)) ∧ AtM M' (.inl (sk (M 441) n 0)) ∧ M' 440 1 = 0 ∧ M' 440 7 = 0 ∧ M' 440 8 = 0) → Q (.inl none) M' K) : Wm (d + 2) 171 [vR 440, vI m] M K Q := by
  refine u171_0 hK hX ⟨M 441, n, .inl (sk (M 441) n 0), ?_, fun M1 x1 p1 => ?_⟩
  · refine ⟨⟨?_, h.2, fun i hi => ?_⟩, 0, ?_, by omega, ?_, rfl⟩
    · rw [ms_nk (by decide), ms_nk (by decide), ms_nk (by decide), ms_nk (by decide), ms_nk (by decide), ms_eq]; exact h.1
    · rw [ms_na (by decide), ms_na (by decide), ms_na (by decide), ms_na (by decide), ms_na (by decide), ms_na (by decide), ms_na (by decide)]
    · rw [ms_nk (by decide), ms_nk (by decide), ms_nk (by decide), ms_nk (by decide), ms_eq]; rfl
    · rw [ms_nk (by decide), ms_nk (by decide), ms_nk (by decide), ms_eq]
  · refine k M1 x1 ⟨fun a k' hn => ?_, p1.2.1, p1.2.2, ?_, ?_, ?_⟩
    · rw [p1.1 a k' (by omega)]
      simp only [mset]
      rw [if_neg (by omega), if_neg (by omega), if_neg (by omega), if_neg (by omega), if_neg (by omega), if_neg (by omega), if_neg (by omega)]
    · rw [p1.1 440 1 (by decide)]; rw [ms_nk (by decide), ms_nk (by decide), ms_nk (by decide), ms_nk (by decide), ms_nk (by decide), ms_nk (by decide), ms_eq]
    · rw [p1.1 440 7 (by decide)]; rw [ms_nk (by decide), ms_eq]
    · rw [p1.1 440 8 (by decide)]; rw [ms_eq]
end MF
