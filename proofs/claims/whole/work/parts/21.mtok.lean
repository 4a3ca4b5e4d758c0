/-! the model's reading -/
def SB (B : BY) (n : Nat) (M : Mem) : Prop := M 439 2 = (n : Int) ∧ n ≤ 600 ∧ ∀ i, i < n → M 440 i = B i
def TM (B : BY) (n : Nat) (M : Mem) (st : ST) : Prop := SB B n M ∧ ∃ a : Nat, M 439 4 = (a : Int) ∧ a ≤ n ∧ match st with
  | .inl p => M 439 5 = 0 ∧ sk B n a = p
  | .inr f => M 439 5 = f.1 ∧ M 439 6 = f.2 ∧ f.1 ≠ 0
def AtM (M : Mem) : ST → Prop
  | .inl p => M 439 4 = (p : Int)
  | .inr _ => True
def FrM (M M' : Mem) : Prop := ∀ a k, ¬ (a = 439 ∧ 4 ≤ k ∧ k ≤ 6) → M' a k = M a k
theorem FrM.rf {M : Mem} : FrM M M := fun _ _ _ => rfl
theorem FrM.tr {M M1 M2 : Mem} (h1 : FrM M M1) (h2 : FrM M1 M2) : FrM M M2 := fun a k h => (h2 a k h).trans (h1 a k h)
theorem FrM.up {M M1 : Mem} {k : Nat} {v : Int} (h1 : FrM M M1) (hk : 4 ≤ k ∧ k ≤ 6) : FrM M (mset M1 439 k v) := by
  intro a' k' h
  unfold mset
  rw [if_neg (by rintro ⟨rfl, rfl⟩; exact h ⟨rfl, hk⟩)]
  exact h1 a' k' h
theorem FrM.fx {M M' : Mem} (h : FrM M M') (hX : FX M) : FX M' := hX.fr (fun a k hk => h a k (by
  rintro ⟨rfl, h1, h2⟩
  have : ∀ k, k < 7 → fxT 439 k = 0 := by decide +kernel
  have := this k (by omega)
  omega))
/-- only at has changed -/
def FrB (M M' : Mem) : Prop := ∀ a k, ¬ (a = 439 ∧ k = 4) → M' a k = M a k
theorem FrB.up {M M1 : Mem} {v : Int} (h1 : FrB M M1) : FrB M (mset M1 439 4 v) := by
  intro a' k' h
  unfold mset
  rw [if_neg h]
  exact h1 a' k' h
theorem FrB.fr {M M' : Mem} (h : FrB M M') : FrM M M' := fun a k hk => h a k (fun q => hk ⟨q.1, by omega⟩)
theorem SB.fr {B : BY} {n : Nat} {M M' : Mem} (h : SB B n M) (hf : FrM M M') : SB B n M' :=
  ⟨(hf 439 2 (by decide)).trans h.1, h.2.1, fun i hi => (hf 440 i (by omega)).trans (h.2.2 i hi)⟩
def bt (B : BY) (n : Nat) (k : Int) : Int := if (n : Int) ≤ k then -1 else B k.toNat
theorem bt_lt {B : BY} {n p : Nat} (h : p < n) : bt B n (p : Int) = B p := by
  unfold bt; rw [if_neg (by omega), Int.toNat_natCast]
theorem bt_ge {B : BY} {n p : Nat} (h : n ≤ p) : bt B n (p : Int) = -1 := by
  unfold bt; rw [if_pos (by omega)]
theorem u153_0 {d : Nat} {l0 : Int} {l1 : Int} {l2 : Int} {M : Mem} {K : KK} {Q : RR → Mem → KK → Prop} (hK : K.1 = 922) (hX : FX M)  (h : (l0 < l1 → Q (.inl (some (vI (0 : Int)))) M K) ∧ (¬ (l0 < l1) → (l2 < l0 → Q (.inl (some (vI (0 : Int)))) M K) ∧ (¬ (l2 < l0) → Q (.inl (some (vI (1 : Int)))) M K))) : Wp d 153 0 [vI l0, vI l1, vI l2] [] M K Q := by
  refine r_iload_n c153_0 rfl ?_
  refine r_iload_n c153_1 rfl ?_
  refine r_icmpP (P := l0 < l1) c153_2 rfl (fun hc => ?_) (fun hc => ?_)
  · replace h := h.1 hc
    refine r_iconst c153_14 ?_
    exact r_iret c153_15 (by decide) h
  · replace h := h.2 hc
    refine r_iload_n c153_5 rfl ?_
    refine r_iload_n c153_6 rfl ?_
    refine r_icmpP (P := l2 < l0) c153_7 rfl (fun hc => ?_) (fun hc => ?_)
    · replace h := h.1 hc
      refine r_iconst c153_14 ?_
      exact r_iret c153_15 (by decide) h
    · replace h := h.2 hc
      refine r_iconst c153_10 ?_
      refine r_goto c153_11 ?_
      exact r_iret c153_15 (by decide) h
theorem u154_0 {d : Nat} {l0 : Int} {l1 : Int} {M : Mem} {K : KK} {Q : RR → Mem → KK → Prop} (hK : K.1 = 922) (hX : FX M)  (h : (l1 ≤ l0 → Q (.inl (some (vI l1))) M K) ∧ (¬ (l1 ≤ l0) → Q (.inl (some (vI l0))) M K)) : Wp d 154 0 [vI l0, vI l1] [] M K Q := by
  refine r_iload_n c154_0 rfl ?_
  refine r_iload_n c154_1 rfl ?_
  refine r_icmpP (P := l1 ≤ l0) c154_2 rfl (fun hc => ?_) (fun hc => ?_)
  · replace h := h.1 hc
    refine r_iload_n c154_9 rfl ?_
    exact r_iret c154_10 (Or.inl rfl) h
  · replace h := h.2 hc
    refine r_iload_n c154_5 rfl ?_
    refine r_goto c154_6 ?_
    exact r_iret c154_10 (Or.inl rfl) h
theorem u155_0 {d : Nat} {l0 : Int} {l1 : Int} {M : Mem} {K : KK} {Q : RR → Mem → KK → Prop} (hK : K.1 = 922) (hX : FX M)  (h : (l0 ≤ l1 → Q (.inl (some (vI l1))) M K) ∧ (¬ (l0 ≤ l1) → Q (.inl (some (vI l0))) M K)) : Wp d 155 0 [vI l0, vI l1] [] M K Q := by
  refine r_iload_n c155_0 rfl ?_
  refine r_iload_n c155_1 rfl ?_
  refine r_icmpP (P := l0 ≤ l1) c155_2 rfl (fun hc => ?_) (fun hc => ?_)
  · replace h := h.1 hc
    refine r_iload_n c155_9 rfl ?_
    exact r_iret c155_10 (Or.inl rfl) h
  · replace h := h.2 hc
    refine r_iload_n c155_5 rfl ?_
    refine r_goto c155_6 ?_
    exact r_iret c155_10 (Or.inl rfl) h
theorem u156_0 {d : Nat} {l0 : Int} {l1 : Int} {M : Mem} {K : KK} {Q : RR → Mem → KK → Prop} (hK : K.1 = 922) (hX : FX M)  (h : (¬ (jand (jshr l0 l1) (1 : Int)) = (1 : Int) → Q (.inl (some (vI (0 : Int)))) M K) ∧ ((jand (jshr l0 l1) (1 : Int)) = (1 : Int) → Q (.inl (some (vI (1 : Int)))) M K)) : Wp d 156 0 [vI l0, vI l1] [] M K Q := by
  refine r_iload_n c156_0 rfl ?_
  refine r_iload_n c156_1 rfl ?_
  refine r_ishr c156_2 ?_
  refine r_iconst c156_3 ?_
  refine r_iand c156_4 ?_
  refine r_iconst c156_5 ?_
  refine r_icmpP (P := ¬ (jand (jshr l0 l1) (1 : Int)) = (1 : Int)) c156_6 rfl (fun hc => ?_) (fun hc => ?_)
  · replace h := h.1 hc
    refine r_iconst c156_13 ?_
    exact r_iret c156_14 (by decide) h
  · replace h := h.2 (Classical.not_not.mp hc)
    refine r_iconst c156_9 ?_
    refine r_goto c156_10 ?_
    exact r_iret c156_14 (by decide) h
section MS
variable {d : Nat} {M : Mem} {K : KK} {Q : RR → Mem → KK → Prop}
theorem g153 {v lo hi : Int} (hK : K.1 = 922) (hX : FX M) (k : Q (.inl (some (vI (bI (lo ≤ v ∧ v ≤ hi))))) M K) : Wm d 153 [vI v, vI lo, vI hi] M K Q := by
  refine u153_0 hK hX ⟨fun h => ?_, fun h => ⟨fun h2 => ?_, fun h2 => ?_⟩⟩
  · rwa [bI_f (by omega)] at k
  · rwa [bI_f (by omega)] at k
  · rwa [bI_t (by omega)] at k
theorem g154 {a b : Int} (hK : K.1 = 922) (hX : FX M) (k : Q (.inl (some (vI (min a b)))) M K) : Wm d 154 [vI a, vI b] M K Q := by
  refine u154_0 hK hX ⟨fun h => ?_, fun h => ?_⟩
  · rwa [show min a b = b from by omega] at k
  · rwa [show min a b = a from by omega] at k
theorem g155 {a b : Int} (hK : K.1 = 922) (hX : FX M) (k : Q (.inl (some (vI (max a b)))) M K) : Wm d 155 [vI a, vI b] M K Q := by
  refine u155_0 hK hX ⟨fun h => ?_, fun h => ?_⟩
  · rwa [show max a b = b from by omega] at k
  · rwa [show max a b = a from by omega] at k
theorem g156 {a b : Int} (hK : K.1 = 922) (hX : FX M) (k : Q (.inl (some (vI (bI (jand (jshr a b) 1 = 1))))) M K) : Wm d 156 [vI a, vI b] M K Q := by
  refine u156_0 hK hX ⟨fun h => ?_, fun h => ?_⟩
  · rwa [bI_f h] at k
  · rwa [bI_t h] at k
end MS
theorem u158_0 {d : Nat} {l1 : Int} {M : Mem} {K : KK} {Q : RR → Mem → KK → Prop} (hK : K.1 = 922) (hX : FX M)  (h : (l1 < (M 439 2) → (0 ≤ l1 ∧ l1 < (600 : Int)) ∧ Q (.inl (some (vI (M 440 (Int.toNat l1))))) M K) ∧ (¬ (l1 < (M 439 2)) → Q (.inl (some (vI (-1 : Int)))) M K)) : Wp d 158 0 [vR 439, vI l1] [] M K Q := by
  refine r_iload_n c158_0 rfl ?_
  refine r_aload_n c158_1 rfl ?_
  refine r_getIe c158_2 (oK hK o439) rfl ?_
  refine r_icmpP (P := l1 < (M 439 2)) c158_5 rfl (fun hc => ?_) (fun hc => ?_)
  · replace h := h.1 hc
    refine r_aload_n c158_12 rfl ?_
    refine r_getR c158_13 (oK hK o439) (FX.get (b := 440) hX (by decide) (by decide +kernel) (by decide)) (by decide) ?_
    refine r_iload_n c158_16 rfl ?_
    obtain ⟨s1, h⟩ := h
    refine r_iae c158_17 (oK hK o440) (bd l440 s1) rfl ?_
    exact r_iret c158_18 (Or.inl rfl) h
  · replace h := h.2 hc
    refine r_iconst c158_8 ?_
    refine r_goto c158_9 ?_
    exact r_iret c158_18 (Or.inl rfl) h
theorem u160_0 {d : Nat} {l1 : Int} {l2 : Int} {M : Mem} {K : KK} {Q : RR → Mem → KK → Prop} (hK : K.1 = 922) (hX : FX M)  (h : (¬ (M 439 5) = (0 : Int) → Q (.inl none) M K) ∧ ((M 439 5) = (0 : Int) → Q (.inl none) (mset (mset M 439 5 l1) 439 6 l2) K)) : Wp d 160 0 [vR 439, vI l1, vI l2] [] M K Q := by
  refine r_aload_n c160_0 rfl ?_
  refine r_getIe c160_1 (oK hK o439) rfl ?_
  refine r_ifP (P := ¬ (M 439 5) = (0 : Int)) c160_4 rfl (fun hc => ?_) (fun hc => ?_)
  · replace h := h.1 hc
    exact r_ret c160_17 h
  · replace h := h.2 (Classical.not_not.mp hc)
    refine r_aload_n c160_7 rfl ?_
    refine r_iload_n c160_8 rfl ?_
    refine r_putI c160_9 (oK hK o439) ?_
    have x1 := FX.set (v := l1) (a := 439) (k := 5) hX (by decide +kernel)
    refine r_aload_n c160_12 rfl ?_
    refine r_iload_n c160_13 rfl ?_
    refine r_putI c160_14 (oK hK o439) ?_
    have x2 := FX.set (v := l2) (a := 439) (k := 6) x1 (by decide +kernel)
    exact r_ret c160_17 h
theorem u161_0 {d : Nat} {l0 : Int} {M : Mem} {K : KK} {Q : RR → Mem → KK → Prop} (hK : K.1 = 922) (hX : FX M)  (h : (l0 < (48 : Int) → Q (.inl (some (vI (0 : Int)))) M K) ∧ (¬ (l0 < (48 : Int)) → ((57 : Int) < l0 → Q (.inl (some (vI (0 : Int)))) M K) ∧ (¬ ((57 : Int) < l0) → Q (.inl (some (vI (1 : Int)))) M K))) : Wp d 161 0 [vI l0] [] M K Q := by
  refine r_iload_n c161_0 rfl ?_
  refine r_bipush c161_1 ?_
  refine r_icmpP (P := l0 < (48 : Int)) c161_3 rfl (fun hc => ?_) (fun hc => ?_)
  · replace h := h.1 hc
    refine r_iconst c161_16 ?_
    exact r_iret c161_17 (by decide) h
  · replace h := h.2 hc
    refine r_iload_n c161_6 rfl ?_
    refine r_bipush c161_7 ?_
    refine r_icmpP (P := (57 : Int) < l0) c161_9 rfl (fun hc => ?_) (fun hc => ?_)
    · replace h := h.1 hc
      refine r_iconst c161_16 ?_
      exact r_iret c161_17 (by decide) h
    · replace h := h.2 hc
      refine r_iconst c161_12 ?_
      refine r_goto c161_13 ?_
      exact r_iret c161_17 (by decide) h
theorem u162_0 {d : Nat} {l0 : Int} {M : Mem} {K : KK} {Q : RR → Mem → KK → Prop} (hK : K.1 = 922) (hX : FX M)  (h : (l0 < (97 : Int) → Q (.inl (some (vI (0 : Int)))) M K) ∧ (¬ (l0 < (97 : Int)) → ((122 : Int) < l0 → Q (.inl (some (vI (0 : Int)))) M K) ∧ (¬ ((122 : Int) < l0) → Q (.inl (some (vI (1 : Int)))) M K))) : Wp d 162 0 [vI l0] [] M K Q := by
  refine r_iload_n c162_0 rfl ?_
  refine r_bipush c162_1 ?_
  refine r_icmpP (P := l0 < (97 : Int)) c162_3 rfl (fun hc => ?_) (fun hc => ?_)
  · replace h := h.1 hc
    refine r_iconst c162_16 ?_
    exact r_iret c162_17 (by decide) h
  · replace h := h.2 hc
    refine r_iload_n c162_6 rfl ?_
    refine r_bipush c162_7 ?_
    refine r_icmpP (P := (122 : Int) < l0) c162_9 rfl (fun hc => ?_) (fun hc => ?_)
    · replace h := h.1 hc
      refine r_iconst c162_16 ?_
      exact r_iret c162_17 (by decide) h
    · replace h := h.2 hc
      refine r_iconst c162_12 ?_
      refine r_goto c162_13 ?_
      exact r_iret c162_17 (by decide) h
theorem u165_0 {d : Nat} {l0 : Int} {l1 : Int} {l2 : Int} {l3 : Int} {l4 : Int} {l5 : Int} {M : Mem} {K : KK} {Q : RR → Mem → KK → Prop} (hK : K.1 = 922) (hX : FX M)  (h : (¬ l3 = (0 : Int) → Wp d 165 29 [vI l0, vI l1, vI l2, vI l3, vI l4, vI l5, vI (w32 ((w32 ((27 : Int) * (w32 ((w32 ((27 : Int) * l0)) + l1)))) + l2))] [vI (w32 ((w32 ((27 : Int) * (w32 ((w32 ((27 : Int) * (w32 ((w32 ((27 : Int) * l0)) + l1)))) + l2)))) + l3))] M K Q) ∧ (l3 = (0 : Int) → Wp d 165 29 [vI l0, vI l1, vI l2, vI l3, vI l4, vI l5, vI (w32 ((w32 ((27 : Int) * (w32 ((w32 ((27 : Int) * l0)) + l1)))) + l2))] [vI (w32 ((w32 ((27 : Int) * (w32 ((w32 ((27 : Int) * l0)) + l1)))) + l2))] M K Q)) : Wp d 165 0 [vI l0, vI l1, vI l2, vI l3, vI l4, vI l5, vU] [] M K Q := by
  refine r_bipush c165_0 ?_
  refine r_bipush c165_2 ?_
  refine r_iload_n c165_4 rfl ?_
  refine r_imul c165_5 ?_
  refine r_iload_n c165_6 rfl ?_
  refine r_iadd c165_7 ?_
  refine r_imul c165_8 ?_
  refine r_iload_n c165_9 rfl ?_
  refine r_iadd c165_10 ?_
  refine r_istore c165_11 (Nat.le_of_ble_eq_true rfl) ?_
  refine r_iload_n c165_13 rfl ?_
  refine r_ifP (P := ¬ l3 = (0 : Int)) c165_14 rfl (fun hc => ?_) (fun hc => ?_)
  · replace h := h.1 hc
    refine r_bipush c165_22 ?_
    refine r_iload c165_24 rfl ?_
    refine r_imul c165_26 ?_
    refine r_iload_n c165_27 rfl ?_
    refine r_iadd c165_28 ?_
    exact h
  · replace h := h.2 (Classical.not_not.mp hc)
    refine r_iload c165_17 rfl ?_
    refine r_goto c165_19 ?_
    exact h
theorem u165_29 {d : Nat} {l0 : Int} {l1 : Int} {l2 : Int} {l3 : Int} {l4 : Int} {l5 : Int} {l6 : Int} {t0 : Int} {M : Mem} {K : KK} {Q : RR → Mem → KK → Prop} (hK : K.1 = 922) (hX : FX M)  (h : (¬ l4 = (0 : Int) → (¬ l5 = (0 : Int) → Q (.inl (some (vI (w32 ((w32 ((27 : Int) * (w32 ((w32 ((27 : Int) * t0)) + l4)))) + l5))))) M K) ∧ (l5 = (0 : Int) → Q (.inl (some (vI (w32 ((w32 ((27 : Int) * t0)) + l4))))) M K)) ∧ (l4 = (0 : Int) → (¬ l5 = (0 : Int) → Q (.inl (some (vI (w32 ((w32 ((27 : Int) * t0)) + l5))))) M K) ∧ (l5 = (0 : Int) → Q (.inl (some (vI t0))) M K))) : Wp d 165 29 [vI l0, vI l1, vI l2, vI l3, vI l4, vI l5, vI l6] [vI t0] M K Q := by
  refine r_istore c165_29 (Nat.le_of_ble_eq_true rfl) ?_
  refine r_iload c165_31 rfl ?_
  refine r_ifP (P := ¬ l4 = (0 : Int)) c165_33 rfl (fun hc => ?_) (fun hc => ?_)
  · replace h := h.1 hc
    refine r_bipush c165_41 ?_
    refine r_iload c165_43 rfl ?_
    refine r_imul c165_45 ?_
    refine r_iload c165_46 rfl ?_
    refine r_iadd c165_48 ?_
    refine r_istore c165_49 (Nat.le_of_ble_eq_true rfl) ?_
    refine r_iload c165_51 rfl ?_
    refine r_ifP (P := ¬ l5 = (0 : Int)) c165_53 rfl (fun hc => ?_) (fun hc => ?_)
    · replace h := h.1 hc
      refine r_bipush c165_61 ?_
      refine r_iload c165_63 rfl ?_
      refine r_imul c165_65 ?_
      refine r_iload c165_66 rfl ?_
      refine r_iadd c165_68 ?_
      exact r_iret c165_69 (Or.inl rfl) h
    · replace h := h.2 (Classical.not_not.mp hc)
      refine r_iload c165_56 rfl ?_
      refine r_goto c165_58 ?_
      exact r_iret c165_69 (Or.inl rfl) h
  · replace h := h.2 (Classical.not_not.mp hc)
    refine r_iload c165_36 rfl ?_
    refine r_goto c165_38 ?_
    refine r_istore c165_49 (Nat.le_of_ble_eq_true rfl) ?_
    refine r_iload c165_51 rfl ?_
    refine r_ifP (P := ¬ l5 = (0 : Int)) c165_53 rfl (fun hc => ?_) (fun hc => ?_)
    · replace h := h.1 hc
      refine r_bipush c165_61 ?_
      refine r_iload c165_63 rfl ?_
      refine r_imul c165_65 ?_
      refine r_iload c165_66 rfl ?_
      refine r_iadd c165_68 ?_
      exact r_iret c165_69 (Or.inl rfl) h
    · replace h := h.2 (Classical.not_not.mp hc)
      refine r_iload c165_56 rfl ?_
      refine r_goto c165_58 ?_
      exact r_iret c165_69 (Or.inl rfl) h
section MA
variable {d : Nat} {M : Mem} {K : KK} {Q : RR → Mem → KK → Prop} {B : BY} {n : Nat} {st : ST}
theorem g158 {c : Int} (hK : K.1 = 922) (hX : FX M) (h : SB B n M ∧ 0 ≤ c) (k : Q (.inl (some (vI (bt B n c)))) M K) : Wm d 158 [vR 439, vI c] M K Q := by
  obtain ⟨⟨h1, h2, h3⟩, h4⟩ := h
  refine u158_0 hK hX ⟨fun hlt => ⟨by omega, ?_⟩, fun hge => ?_⟩
  · unfold bt at k
    rw [if_neg (by omega)] at k
    rw [h3 _ (by omega)]; exact k
  · unfold bt at k
    rw [if_pos (by omega)] at k
    exact k
theorem TM_fail {k pl : Int} (h : TM B n M st) (hk : k ≠ 0) : TM B n (if M 439 5 = 0 then mset (mset M 439 5 k) 439 6 pl else M) (tFail k pl st) := by
  obtain ⟨h1, a, h4, h5, h6⟩ := h
  cases st with
  | inl p =>
    rw [if_pos h6.1]
    exact ⟨h1.fr ((FrM.rf.up (by decide)).up (by decide)), a, by rw [ms_nk (by decide), ms_nk (by decide)]; exact h4, h5, by rw [ms_nk (by decide), ms_eq], ms_eq, hk⟩
  | inr f =>
    rw [if_neg (by rw [h6.1]; exact h6.2.2)]
    exact ⟨h1, a, h4, h5, h6⟩
theorem g160 {u v : Int} (hK : K.1 = 922) (hX : FX M) (p : TM B n M st ∧ u ≠ 0) (k : ∀ M', FX M' → (FrM M M' ∧ TM B n M' (tFail u v st)) → Q (.inl none) M' K) : Wm d 160 [vR 439, vI u, vI v] M K Q := by
  have h9 := TM_fail (pl := v) p.1 p.2
  refine u160_0 hK hX ⟨fun e => ?_, fun e => ?_⟩
  · rw [if_neg e] at h9
    exact k _ hX ⟨FrM.rf, h9⟩
  · rw [if_pos e] at h9
    have hf : FrM M (mset (mset M 439 5 u) 439 6 v) := (FrM.rf.up (by decide)).up (by decide)
    exact k _ (hf.fx hX) ⟨hf, h9⟩
theorem g161 {c : Int} (hK : K.1 = 922) (hX : FX M) (k : Q (.inl (some (vI (bI (isD c = true))))) M K) : Wm d 161 [vI c] M K Q := by
  refine u161_0 hK hX ⟨fun h => ?_, fun h => ⟨fun h2 => ?_, fun h2 => ?_⟩⟩
  · rwa [bI_f (by rw [isD_iff]; omega)] at k
  · rwa [bI_f (by rw [isD_iff]; omega)] at k
  · rwa [bI_t (by rw [isD_iff]; omega)] at k
theorem g162 {c : Int} (hK : K.1 = 922) (hX : FX M) (k : Q (.inl (some (vI (bI (isS c = true))))) M K) : Wm d 162 [vI c] M K Q := by
  refine u162_0 hK hX ⟨fun h => ?_, fun h => ⟨fun h2 => ?_, fun h2 => ?_⟩⟩
  · rwa [bI_f (by rw [isS_iff]; omega)] at k
  · rwa [bI_f (by rw [isS_iff]; omega)] at k
  · rwa [bI_t (by rw [isS_iff]; omega)] at k
end MA
theorem u159_0 {d : Nat}  {M : Mem} {K : KK} {Q : RR → Mem → KK → Prop} (hK : K.1 = 922) (hX : FX M)  (h : ∃ B1 : BY, ∃ n2 : Nat, (SB B1 n2 M ∧ 0 ≤ (M 439 4)) ∧ (¬ (bt B1 n2 (M 439 4)) = (32 : Int) → Q (.inl none) M K) ∧ ((bt B1 n2 (M 439 4)) = (32 : Int) → Wp (d + 1) 159 0 [vR 439] [] (mset M 439 4 (w32 ((M 439 4) + (1 : Int)))) K Q)) : Wp (d + 1) 159 0 [vR 439] [] M K Q := by
  refine r_aload_n c159_0 rfl ?_
  refine r_aload_n c159_1 rfl ?_
  refine r_getIe c159_2 (oK hK o439) rfl ?_
  obtain ⟨B1, h⟩ := h
  obtain ⟨n2, h⟩ := h
  obtain ⟨p3, h⟩ := h
  refine r_call c159_5 rfl rfl (Nat.le_of_ble_eq_true rfl) (okc_r rfl rfl (oK hK o439)) (g158 hK hX p3 (Bk_v ?_))
  refine r_bipush c159_8 ?_
  refine r_icmpP (P := ¬ (bt B1 n2 (M 439 4)) = (32 : Int)) c159_10 rfl (fun hc => ?_) (fun hc => ?_)
  · replace h := h.1 hc
    exact r_ret c159_26 h
  · replace h := h.2 (Classical.not_not.mp hc)
    refine r_aload_n c159_13 rfl ?_
    refine r_dupr c159_14 ?_
    refine r_getIe c159_15 (oK hK o439) rfl ?_
    refine r_iconst c159_18 ?_
    refine r_iadd c159_19 ?_
    refine r_putI c159_20 (oK hK o439) ?_
    have x4 := FX.set (v := (w32 ((M 439 4) + (1 : Int)))) (a := 439) (k := 4) hX (by decide +kernel)
    refine r_goto c159_23 ?_
    exact h
section MB
variable {d : Nat} {M : Mem} {K : KK} {Q : RR → Mem → KK → Prop} {B : BY} {n : Nat} {st : ST}
theorem TM_at {M' : Mem} {p : Nat} (h : TM B n M st) (hf : FrB M M') (hp : M' 439 4 = (p : Int)) (hpn : p ≤ n) (hs : ∀ q, st = .inl q → sk B n p = q) : TM B n M' st := by
  obtain ⟨h1, a, h4, h5, h6⟩ := h
  refine ⟨h1.fr hf.fr, p, hp, hpn, ?_⟩
  cases st with
  | inl q => exact ⟨(hf 439 5 (by decide)).trans h6.1, hs q rfl⟩
  | inr f => exact ⟨(hf 439 5 (by decide)).trans h6.1, (hf 439 6 (by decide)).trans h6.2.1, h6.2.2⟩
theorem g159 (hK : K.1 = 922) (hX : FX M) (h : TM B n M st) (k : ∀ M', FX M' → (FrM M M' ∧ TM B n M' st ∧ AtM M' st) → Q (.inl none) M' K) : Wm (d + 1) 159 [vR 439] M K Q := by
  have h0 := h
  obtain ⟨h1, a, h4, h5, h6⟩ := h
  have hst : ∀ q, st = .inl q → sk B n a = q := by
    intro q hq; subst hq; exact h6.2
  have key : ∀ p, p ≤ n → (∀ M1, FrB M M1 → M1 439 4 = (p : Int) → sk B n a = sk B n p → Wp (d + 1) 159 0 [vR 439] [] M1 K Q) := by
    refine sp_ind (P := isB) (B := B) ?_ ?_
    · intro p hp hno M1 hf hat hsk
      have hx1 : FX M1 := hf.fr.fx hX
      have hp0 : sk B n p = p := by
        by_cases hh : p < n
        · exact sp_no (hno hh)
        · exact sp_end (by omega)
      refine u159_0 hK hx1 ⟨B, n, ⟨h1.fr hf.fr, by omega⟩, fun _ => ?_, fun he => ?_⟩
      · refine k M1 hx1 ⟨hf.fr, TM_at h0 hf hat hp (fun q hq => by rw [← hsk]; exact hst q hq), ?_⟩
        cases st with
        | inl q =>
          have hq : p = q := by rw [← hst q rfl, hsk, hp0]
          subst hq; exact hat
        | inr f => trivial
      · exfalso
        rw [hat] at he
        by_cases hh : p < n
        · rw [bt_lt hh] at he
          exact hno hh (isB_iff.mpr he)
        · rw [bt_ge (by omega)] at he; omega
    · intro p hp hb ih M1 hf hat hsk
      have hx1 : FX M1 := hf.fr.fx hX
      have := h1.2.1
      refine u159_0 hK hx1 ⟨B, n, ⟨h1.fr hf.fr, by omega⟩, fun hne => ?_, fun he => ?_⟩
      · exfalso
        rw [hat, bt_lt hp] at hne
        exact hne (isB_iff.mp hb)
      · rw [hat, show w32 ((p : Int) + 1) = ((p + 1 : Nat) : Int) from by rw [w32_id (by omega)]; omega]
        refine ih _ hf.up ms_eq ?_
        rw [hsk]; exact sp_go hp hb
  exact key a h5 M (fun _ _ _ => rfl) h4 rfl
end MB
theorem u163_0 {d : Nat} {l1 : Int} {l2 : Int} {M : Mem} {K : KK} {Q : RR → Mem → KK → Prop} (hK : K.1 = 922) (hX : FX M)  (h : ((M 439 5) = (0 : Int) → ∃ B1 : BY, ∃ n2 : Nat, ∃ st3 : ST, TM B1 n2 M st3 ∧ (∀ (M7 : Mem), FX M7 → (FrM M M7 ∧ TM B1 n2 M7 st3 ∧ AtM M7 st3) → ∃ B8 : BY, ∃ n9 : Nat, (SB B8 n9 M7 ∧ 0 ≤ (M7 439 4)) ∧ ((isD (bt B8 n9 (M7 439 4)) = true) → Wp (d + 2) 163 44 [vR 439, vI l1, vI l2, vI (M7 439 4), vI (0 : Int)] [] M7 K Q) ∧ (¬ (isD (bt B8 n9 (M7 439 4)) = true) → ∃ B11 : BY, ∃ n12 : Nat, ∃ st13 : ST, (TM B11 n12 M7 st13 ∧ (1 : Int) ≠ 0) ∧ (∀ (M17 : Mem), FX M17 → (FrM M7 M17 ∧ TM B11 n12 M17 (tFail (1 : Int) (M7 439 4) st13)) → Wp (d + 2) 163 44 [vR 439, vI l1, vI l2, vI (M7 439 4), vI (0 : Int)] [] M17 K Q)))) ∧ (¬ ((M 439 5) = (0 : Int)) → Q (.inl (some (vI (0 : Int)))) M K)) : Wp (d + 2) 163 0 [vR 439, vI l1, vI l2, vU, vU] [] M K Q := by
  refine r_aload_n c163_0 rfl ?_
  refine r_getIe c163_1 (oK hK o439) rfl ?_
  refine r_ifP (P := (M 439 5) = (0 : Int)) c163_4 rfl (fun hc => ?_) (fun hc => ?_)
  · replace h := h.1 hc
    refine r_aload_n c163_9 rfl ?_
    obtain ⟨B1, h⟩ := h
    obtain ⟨n2, h⟩ := h
    obtain ⟨st3, h⟩ := h
    obtain ⟨p4, h⟩ := h
    refine r_call c163_10 rfl rfl (Nat.le_of_ble_eq_true rfl) (okc_r rfl rfl (oK hK o439)) (g159 hK hX p4 (fun M7 x5 p6 => Bk_n ?_))
    replace h := h M7 x5 p6
    refine r_aload_n c163_13 rfl ?_
    refine r_getIe c163_14 (oK hK o439) rfl ?_
    refine r_istore_n c163_17 (Nat.le_of_ble_eq_true rfl) ?_
    refine r_iconst c163_18 ?_
    refine r_istore c163_19 (Nat.le_of_ble_eq_true rfl) ?_
    refine r_aload_n c163_21 rfl ?_
    refine r_aload_n c163_22 rfl ?_
    refine r_getIe c163_23 (oK hK o439) rfl ?_
    obtain ⟨B8, h⟩ := h
    obtain ⟨n9, h⟩ := h
    obtain ⟨p10, h⟩ := h
    refine r_call c163_26 rfl rfl (Nat.le_of_ble_eq_true rfl) (okc_r rfl rfl (oK hK o439)) (g158 hK x5 p10 (Bk_v ?_))
    refine r_call c163_29 rfl rfl (Nat.le_of_ble_eq_true rfl) (okc_s rfl rfl rfl) (g161 hK x5  (Bk_v ?_))
    refine r_ifP (P := (isD (bt B8 n9 (M7 439 4)) = true)) c163_32 bI_ne (fun hc => ?_) (fun hc => ?_)
    · replace h := h.1 hc
      exact h
    · replace h := h.2 hc
      refine r_aload_n c163_35 rfl ?_
      refine r_iconst c163_36 ?_
      refine r_aload_n c163_37 rfl ?_
      refine r_getIe c163_38 (oK hK o439) rfl ?_
      obtain ⟨B11, h⟩ := h
      obtain ⟨n12, h⟩ := h
      obtain ⟨st13, h⟩ := h
      obtain ⟨p14, h⟩ := h
      refine r_call c163_41 rfl rfl (Nat.le_of_ble_eq_true rfl) (okc_r rfl rfl (oK hK o439)) (g160 hK x5 p14 (fun M17 x15 p16 => Bk_n ?_))
      replace h := h M17 x15 p16
      exact h
  · replace h := h.2 hc
    refine r_iconst c163_7 ?_
    exact r_iret c163_8 (Or.inl rfl) h
theorem u163_44 {d : Nat} {l1 : Int} {l2 : Int} {l3 : Int} {l4 : Int} {M : Mem} {K : KK} {Q : RR → Mem → KK → Prop} (hK : K.1 = 922) (hX : FX M)  (h : ∃ B1 : BY, ∃ n2 : Nat, (SB B1 n2 M ∧ 0 ≤ (M 439 4)) ∧ (¬ (isD (bt B1 n2 (M 439 4)) = true) → ((l1 ≤ l4 ∧ l4 ≤ l2) → (¬ (M 439 5) = (0 : Int) → Q (.inl (some (vI (0 : Int)))) M K) ∧ ((M 439 5) = (0 : Int) → Q (.inl (some (vI l4))) M K)) ∧ (¬ (l1 ≤ l4 ∧ l4 ≤ l2) → ∃ B4 : BY, ∃ n5 : Nat, ∃ st6 : ST, (TM B4 n5 M st6 ∧ (2 : Int) ≠ 0) ∧ (∀ (M10 : Mem), FX M10 → (FrM M M10 ∧ TM B4 n5 M10 (tFail (2 : Int) l3 st6)) → (¬ (M10 439 5) = (0 : Int) → Q (.inl (some (vI (0 : Int)))) M10 K) ∧ ((M10 439 5) = (0 : Int) → Q (.inl (some (vI l4))) M10 K)))) ∧ ((isD (bt B1 n2 (M 439 4)) = true) → ∃ B11 : BY, ∃ n12 : Nat, (SB B11 n12 M ∧ 0 ≤ (M 439 4)) ∧ ((w32 ((w32 ((w32 ((10 : Int) * l4)) + (bt B11 n12 (M 439 4)))) - (48 : Int))) ≤ (100000 : Int) → Wp (d + 2) 163 44 [vR 439, vI l1, vI l2, vI l3, vI (w32 ((w32 ((w32 ((10 : Int) * l4)) + (bt B11 n12 (M 439 4)))) - (48 : Int)))] [] (mset M 439 4 (w32 ((M 439 4) + (1 : Int)))) K Q) ∧ (¬ ((w32 ((w32 ((w32 ((10 : Int) * l4)) + (bt B11 n12 (M 439 4)))) - (48 : Int))) ≤ (100000 : Int)) → Wp (d + 2) 163 44 [vR 439, vI l1, vI l2, vI l3, vI (100000 : Int)] [] (mset M 439 4 (w32 ((M 439 4) + (1 : Int)))) K Q))) : Wp (d + 2) 163 44 [vR 439, vI l1, vI l2, vI l3, vI l4] [] M K Q := by
  refine r_aload_n c163_44 rfl ?_
  refine r_aload_n c163_45 rfl ?_
  refine r_getIe c163_46 (oK hK o439) rfl ?_
  obtain ⟨B1, h⟩ := h
  obtain ⟨n2, h⟩ := h
  obtain ⟨p3, h⟩ := h
  refine r_call c163_49 rfl rfl (Nat.le_of_ble_eq_true rfl) (okc_r rfl rfl (oK hK o439)) (g158 hK hX p3 (Bk_v ?_))
  refine r_call c163_52 rfl rfl (Nat.le_of_ble_eq_true rfl) (okc_s rfl rfl rfl) (g161 hK hX  (Bk_v ?_))
  refine r_ifP (P := ¬ (isD (bt B1 n2 (M 439 4)) = true)) c163_55 bI_eq (fun hc => ?_) (fun hc => ?_)
  · replace h := h.1 hc
    refine r_iload c163_106 rfl ?_
    refine r_iload_n c163_108 rfl ?_
    refine r_iload_n c163_109 rfl ?_
    refine r_call c163_110 rfl rfl (Nat.le_of_ble_eq_true rfl) (okc_s rfl rfl rfl) (g153 hK hX  (Bk_v ?_))
    refine r_ifP (P := (l1 ≤ l4 ∧ l4 ≤ l2)) c163_113 bI_ne (fun hc => ?_) (fun hc => ?_)
    · replace h := h.1 hc
      refine r_aload_n c163_122 rfl ?_
      refine r_getIe c163_123 (oK hK o439) rfl ?_
      refine r_ifP (P := ¬ (M 439 5) = (0 : Int)) c163_126 rfl (fun hc => ?_) (fun hc => ?_)
      · replace h := h.1 hc
        refine r_iconst c163_134 ?_
        exact r_iret c163_135 (Or.inl rfl) h
      · replace h := h.2 (Classical.not_not.mp hc)
        refine r_iload c163_129 rfl ?_
        refine r_goto c163_131 ?_
        exact r_iret c163_135 (Or.inl rfl) h
    · replace h := h.2 hc
      refine r_aload_n c163_116 rfl ?_
      refine r_iconst c163_117 ?_
      refine r_iload_n c163_118 rfl ?_
      obtain ⟨B4, h⟩ := h
      obtain ⟨n5, h⟩ := h
      obtain ⟨st6, h⟩ := h
      obtain ⟨p7, h⟩ := h
      refine r_call c163_119 rfl rfl (Nat.le_of_ble_eq_true rfl) (okc_r rfl rfl (oK hK o439)) (g160 hK hX p7 (fun M10 x8 p9 => Bk_n ?_))
      replace h := h M10 x8 p9
      refine r_aload_n c163_122 rfl ?_
      refine r_getIe c163_123 (oK hK o439) rfl ?_
      refine r_ifP (P := ¬ (M10 439 5) = (0 : Int)) c163_126 rfl (fun hc => ?_) (fun hc => ?_)
      · replace h := h.1 hc
        refine r_iconst c163_134 ?_
        exact r_iret c163_135 (Or.inl rfl) h
      · replace h := h.2 (Classical.not_not.mp hc)
        refine r_iload c163_129 rfl ?_
        refine r_goto c163_131 ?_
        exact r_iret c163_135 (Or.inl rfl) h
  · replace h := h.2 (Classical.not_not.mp hc)
    refine r_bipush c163_58 ?_
    refine r_iload c163_60 rfl ?_
    refine r_imul c163_62 ?_
    refine r_aload_n c163_63 rfl ?_
    refine r_aload_n c163_64 rfl ?_
    refine r_getIe c163_65 (oK hK o439) rfl ?_
    obtain ⟨B11, h⟩ := h
    obtain ⟨n12, h⟩ := h
    obtain ⟨p13, h⟩ := h
    refine r_call c163_68 rfl rfl (Nat.le_of_ble_eq_true rfl) (okc_r rfl rfl (oK hK o439)) (g158 hK hX p13 (Bk_v ?_))
    refine r_iadd c163_71 ?_
    refine r_bipush c163_72 ?_
    refine r_isub c163_74 ?_
    refine r_istore c163_75 (Nat.le_of_ble_eq_true rfl) ?_
    refine r_iload c163_77 rfl ?_
    refine r_ldci c163_79 ?_
    refine r_icmpP (P := (w32 ((w32 ((w32 ((10 : Int) * l4)) + (bt B11 n12 (M 439 4)))) - (48 : Int))) ≤ (100000 : Int)) c163_81 rfl (fun hc => ?_) (fun hc => ?_)
    · replace h := h.1 hc
      refine r_iload c163_89 rfl ?_
      refine r_istore c163_91 (Nat.le_of_ble_eq_true rfl) ?_
      refine r_aload_n c163_93 rfl ?_
      refine r_dupr c163_94 ?_
      refine r_getIe c163_95 (oK hK o439) rfl ?_
      refine r_iconst c163_98 ?_
      refine r_iadd c163_99 ?_
      refine r_putI c163_100 (oK hK o439) ?_
      have x14 := FX.set (v := (w32 ((M 439 4) + (1 : Int)))) (a := 439) (k := 4) hX (by decide +kernel)
      refine r_goto c163_103 ?_
      exact h
    · replace h := h.2 hc
      refine r_ldci c163_84 ?_
      refine r_goto c163_86 ?_
      refine r_istore c163_91 (Nat.le_of_ble_eq_true rfl) ?_
      refine r_aload_n c163_93 rfl ?_
      refine r_dupr c163_94 ?_
      refine r_getIe c163_95 (oK hK o439) rfl ?_
      refine r_iconst c163_98 ?_
      refine r_iadd c163_99 ?_
      refine r_putI c163_100 (oK hK o439) ?_
      have x15 := FX.set (v := (w32 ((M 439 4) + (1 : Int)))) (a := 439) (k := 4) hX (by decide +kernel)
      refine r_goto c163_103 ?_
      exact h
theorem u164_0 {d : Nat}  {M : Mem} {K : KK} {Q : RR → Mem → KK → Prop} (hK : K.1 = 922) (hX : FX M)  (h : ∃ B1 : BY, ∃ n2 : Nat, ∃ st3 : ST, TM B1 n2 M st3 ∧ (∀ (M7 : Mem), FX M7 → (FrM M M7 ∧ TM B1 n2 M7 st3 ∧ AtM M7 st3) → Wp (d + 2) 164 8 [vR 439, vI (0 : Int), vI (0 : Int)] [] M7 K Q)) : Wp (d + 2) 164 0 [vR 439, vU, vU] [] M K Q := by
  refine r_aload_n c164_0 rfl ?_
  obtain ⟨B1, h⟩ := h
  obtain ⟨n2, h⟩ := h
  obtain ⟨st3, h⟩ := h
  obtain ⟨p4, h⟩ := h
  refine r_call c164_1 rfl rfl (Nat.le_of_ble_eq_true rfl) (okc_r rfl rfl (oK hK o439)) (g159 hK hX p4 (fun M7 x5 p6 => Bk_n ?_))
  replace h := h M7 x5 p6
  refine r_iconst c164_4 ?_
  refine r_istore_n c164_5 (Nat.le_of_ble_eq_true rfl) ?_
  refine r_iconst c164_6 ?_
  refine r_istore_n c164_7 (Nat.le_of_ble_eq_true rfl) ?_
  exact h
theorem u164_8 {d : Nat} {l1 : Int} {l2 : Int} {M : Mem} {K : KK} {Q : RR → Mem → KK → Prop} (hK : K.1 = 922) (hX : FX M)  (h : ∃ B1 : BY, ∃ n2 : Nat, (SB B1 n2 M ∧ 0 ≤ (w32 ((M 439 4) + l2))) ∧ (¬ (isS (bt B1 n2 (w32 ((M 439 4) + l2))) = true) → (l2 ≤ (6 : Int) → Q (.inl (some (vI l1))) M K) ∧ (¬ (l2 ≤ (6 : Int)) → Q (.inl (some (vI (-1 : Int)))) M K)) ∧ ((isS (bt B1 n2 (w32 ((M 439 4) + l2))) = true) → ((6 : Int) ≤ l2 → Wp (d + 2) 164 8 [vR 439, vI l1, vI (w32 (l2 + 1))] [] M K Q) ∧ (¬ ((6 : Int) ≤ l2) → ∃ B4 : BY, ∃ n5 : Nat, (SB B4 n5 M ∧ 0 ≤ (w32 ((M 439 4) + l2))) ∧ Wp (d + 2) 164 8 [vR 439, vI (w32 ((w32 ((w32 ((w32 ((27 : Int) * l1)) + (bt B4 n5 (w32 ((M 439 4) + l2))))) - (97 : Int))) + (1 : Int))), vI (w32 (l2 + 1))] [] M K Q))) : Wp (d + 2) 164 8 [vR 439, vI l1, vI l2] [] M K Q := by
  refine r_aload_n c164_8 rfl ?_
  refine r_aload_n c164_9 rfl ?_
  refine r_getIe c164_10 (oK hK o439) rfl ?_
  refine r_iload_n c164_13 rfl ?_
  refine r_iadd c164_14 ?_
  obtain ⟨B1, h⟩ := h
  obtain ⟨n2, h⟩ := h
  obtain ⟨p3, h⟩ := h
  refine r_call c164_15 rfl rfl (Nat.le_of_ble_eq_true rfl) (okc_r rfl rfl (oK hK o439)) (g158 hK hX p3 (Bk_v ?_))
  refine r_call c164_18 rfl rfl (Nat.le_of_ble_eq_true rfl) (okc_s rfl rfl rfl) (g162 hK hX  (Bk_v ?_))
  refine r_ifP (P := ¬ (isS (bt B1 n2 (w32 ((M 439 4) + l2))) = true)) c164_21 bI_eq (fun hc => ?_) (fun hc => ?_)
  · replace h := h.1 hc
    refine r_iload_n c164_61 rfl ?_
    refine r_bipush c164_62 ?_
    refine r_icmpP (P := l2 ≤ (6 : Int)) c164_64 rfl (fun hc => ?_) (fun hc => ?_)
    · replace h := h.1 hc
      refine r_iload_n c164_71 rfl ?_
      exact r_iret c164_72 (Or.inl rfl) h
    · replace h := h.2 hc
      refine r_iconst c164_67 ?_
      refine r_goto c164_68 ?_
      exact r_iret c164_72 (Or.inl rfl) h
  · replace h := h.2 (Classical.not_not.mp hc)
    refine r_iload_n c164_24 rfl ?_
    refine r_bipush c164_25 ?_
    refine r_icmpP (P := (6 : Int) ≤ l2) c164_27 rfl (fun hc => ?_) (fun hc => ?_)
    · replace h := h.1 hc
      refine r_iload_n c164_53 rfl ?_
      refine r_istore_n c164_54 (Nat.le_of_ble_eq_true rfl) ?_
      refine r_iinc c164_55 rfl ?_
      refine r_goto c164_58 ?_
      exact h
    · replace h := h.2 hc
      refine r_bipush c164_30 ?_
      refine r_iload_n c164_32 rfl ?_
      refine r_imul c164_33 ?_
      refine r_aload_n c164_34 rfl ?_
      refine r_aload_n c164_35 rfl ?_
      refine r_getIe c164_36 (oK hK o439) rfl ?_
      refine r_iload_n c164_39 rfl ?_
      refine r_iadd c164_40 ?_
      obtain ⟨B4, h⟩ := h
      obtain ⟨n5, h⟩ := h
      obtain ⟨p6, h⟩ := h
      refine r_call c164_41 rfl rfl (Nat.le_of_ble_eq_true rfl) (okc_r rfl rfl (oK hK o439)) (g158 hK hX p6 (Bk_v ?_))
      refine r_iadd c164_44 ?_
      refine r_bipush c164_45 ?_
      refine r_isub c164_47 ?_
      refine r_iconst c164_48 ?_
      refine r_iadd c164_49 ?_
      refine r_goto c164_50 ?_
      refine r_istore_n c164_54 (Nat.le_of_ble_eq_true rfl) ?_
      refine r_iinc c164_55 rfl ?_
      refine r_goto c164_58 ?_
      exact h
theorem u167_0 {d : Nat}  {M : Mem} {K : KK} {Q : RR → Mem → KK → Prop} (hK : K.1 = 922) (hX : FX M)  (h : ∃ B1 : BY, ∃ n2 : Nat, (SB B1 n2 M ∧ 0 ≤ (M 439 4)) ∧ (¬ (isS (bt B1 n2 (M 439 4)) = true) → Q (.inl none) M K) ∧ ((isS (bt B1 n2 (M 439 4)) = true) → Wp (d + 1) 167 0 [vR 439] [] (mset M 439 4 (w32 ((M 439 4) + (1 : Int)))) K Q)) : Wp (d + 1) 167 0 [vR 439] [] M K Q := by
  refine r_aload_n c167_0 rfl ?_
  refine r_aload_n c167_1 rfl ?_
  refine r_getIe c167_2 (oK hK o439) rfl ?_
  obtain ⟨B1, h⟩ := h
  obtain ⟨n2, h⟩ := h
  obtain ⟨p3, h⟩ := h
  refine r_call c167_5 rfl rfl (Nat.le_of_ble_eq_true rfl) (okc_r rfl rfl (oK hK o439)) (g158 hK hX p3 (Bk_v ?_))
  refine r_call c167_8 rfl rfl (Nat.le_of_ble_eq_true rfl) (okc_s rfl rfl rfl) (g162 hK hX  (Bk_v ?_))
  refine r_ifP (P := ¬ (isS (bt B1 n2 (M 439 4)) = true)) c167_11 bI_eq (fun hc => ?_) (fun hc => ?_)
  · replace h := h.1 hc
    exact r_ret c167_27 h
  · replace h := h.2 (Classical.not_not.mp hc)
    refine r_aload_n c167_14 rfl ?_
    refine r_dupr c167_15 ?_
    refine r_getIe c167_16 (oK hK o439) rfl ?_
    refine r_iconst c167_19 ?_
    refine r_iadd c167_20 ?_
    refine r_putI c167_21 (oK hK o439) ?_
    have x4 := FX.set (v := (w32 ((M 439 4) + (1 : Int)))) (a := 439) (k := 4) hX (by decide +kernel)
    refine r_goto c167_24 ?_
    exact h
theorem u169_0 {d : Nat} {l1 : Int} {M : Mem} {K : KK} {Q : RR → Mem → KK → Prop} (hK : K.1 = 922) (hX : FX M)  (h : ((M 439 5) = (0 : Int) → ∃ B1 : BY, ∃ n2 : Nat, ∃ st3 : ST, TM B1 n2 M st3 ∧ (∀ (M7 : Mem), FX M7 → (FrM M M7 ∧ TM B1 n2 M7 st3 ∧ AtM M7 st3) → ∃ B8 : BY, ∃ n9 : Nat, (SB B8 n9 M7 ∧ 0 ≤ (M7 439 4)) ∧ (¬ (bt B8 n9 (M7 439 4)) = l1 → ∃ B11 : BY, ∃ n12 : Nat, ∃ st13 : ST, (TM B11 n12 M7 st13 ∧ (1 : Int) ≠ 0) ∧ (∀ (M17 : Mem), FX M17 → (FrM M7 M17 ∧ TM B11 n12 M17 (tFail (1 : Int) (M7 439 4) st13)) → Q (.inl none) M17 K)) ∧ ((bt B8 n9 (M7 439 4)) = l1 → Q (.inl none) (mset M7 439 4 (w32 ((M7 439 4) + (1 : Int)))) K))) ∧ (¬ ((M 439 5) = (0 : Int)) → Q (.inl none) M K)) : Wp (d + 2) 169 0 [vR 439, vI l1] [] M K Q := by
  refine r_aload_n c169_0 rfl ?_
  refine r_getIe c169_1 (oK hK o439) rfl ?_
  refine r_ifP (P := (M 439 5) = (0 : Int)) c169_4 rfl (fun hc => ?_) (fun hc => ?_)
  · replace h := h.1 hc
    refine r_aload_n c169_8 rfl ?_
    obtain ⟨B1, h⟩ := h
    obtain ⟨n2, h⟩ := h
    obtain ⟨st3, h⟩ := h
    obtain ⟨p4, h⟩ := h
    refine r_call c169_9 rfl rfl (Nat.le_of_ble_eq_true rfl) (okc_r rfl rfl (oK hK o439)) (g159 hK hX p4 (fun M7 x5 p6 => Bk_n ?_))
    replace h := h M7 x5 p6
    refine r_aload_n c169_12 rfl ?_
    refine r_aload_n c169_13 rfl ?_
    refine r_getIe c169_14 (oK hK o439) rfl ?_
    obtain ⟨B8, h⟩ := h
    obtain ⟨n9, h⟩ := h
    obtain ⟨p10, h⟩ := h
    refine r_call c169_17 rfl rfl (Nat.le_of_ble_eq_true rfl) (okc_r rfl rfl (oK hK o439)) (g158 hK x5 p10 (Bk_v ?_))
    refine r_iload_n c169_20 rfl ?_
    refine r_icmpP (P := ¬ (bt B8 n9 (M7 439 4)) = l1) c169_21 rfl (fun hc => ?_) (fun hc => ?_)
    · replace h := h.1 hc
      refine r_aload_n c169_37 rfl ?_
      refine r_iconst c169_38 ?_
      refine r_aload_n c169_39 rfl ?_
      refine r_getIe c169_40 (oK hK o439) rfl ?_
      obtain ⟨B11, h⟩ := h
      obtain ⟨n12, h⟩ := h
      obtain ⟨st13, h⟩ := h
      obtain ⟨p14, h⟩ := h
      refine r_call c169_43 rfl rfl (Nat.le_of_ble_eq_true rfl) (okc_r rfl rfl (oK hK o439)) (g160 hK x5 p14 (fun M17 x15 p16 => Bk_n ?_))
      replace h := h M17 x15 p16
      exact r_ret c169_46 h
    · replace h := h.2 (Classical.not_not.mp hc)
      refine r_aload_n c169_24 rfl ?_
      refine r_dupr c169_25 ?_
      refine r_getIe c169_26 (oK hK o439) rfl ?_
      refine r_iconst c169_29 ?_
      refine r_iadd c169_30 ?_
      refine r_putI c169_31 (oK hK o439) ?_
      have x18 := FX.set (v := (w32 ((M7 439 4) + (1 : Int)))) (a := 439) (k := 4) x5 (by decide +kernel)
      refine r_goto c169_34 ?_
      exact r_ret c169_46 h
  · replace h := h.2 hc
    exact r_ret c169_7 h
theorem u170_0 {d : Nat} {l1 : Int} {M : Mem} {K : KK} {Q : RR → Mem → KK → Prop} (hK : K.1 = 922) (hX : FX M)  (h : ((M 439 5) = (0 : Int) → ∃ B1 : BY, ∃ n2 : Nat, ∃ st3 : ST, TM B1 n2 M st3 ∧ (∀ (M7 : Mem), FX M7 → (FrM M M7 ∧ TM B1 n2 M7 st3 ∧ AtM M7 st3) → ∃ B8 : BY, ∃ n9 : Nat, (SB B8 n9 M7 ∧ 0 ≤ (M7 439 4)) ∧ (¬ (bt B8 n9 (M7 439 4)) = l1 → ((0 : Int) = (0 : Int) → Q (.inl (some (vI (0 : Int)))) M7 K) ∧ (¬ ((0 : Int) = (0 : Int)) → Q (.inl (some (vI (0 : Int)))) (mset M7 439 4 (w32 ((M7 439 4) + (1 : Int)))) K)) ∧ ((bt B8 n9 (M7 439 4)) = l1 → ((1 : Int) = (0 : Int) → Q (.inl (some (vI (1 : Int)))) M7 K) ∧ (¬ ((1 : Int) = (0 : Int)) → Q (.inl (some (vI (1 : Int)))) (mset M7 439 4 (w32 ((M7 439 4) + (1 : Int)))) K)))) ∧ (¬ ((M 439 5) = (0 : Int)) → Q (.inl (some (vI (0 : Int)))) M K)) : Wp (d + 2) 170 0 [vR 439, vI l1, vU] [] M K Q := by
  refine r_aload_n c170_0 rfl ?_
  refine r_getIe c170_1 (oK hK o439) rfl ?_
  refine r_ifP (P := (M 439 5) = (0 : Int)) c170_4 rfl (fun hc => ?_) (fun hc => ?_)
  · replace h := h.1 hc
    refine r_aload_n c170_9 rfl ?_
    obtain ⟨B1, h⟩ := h
    obtain ⟨n2, h⟩ := h
    obtain ⟨st3, h⟩ := h
    obtain ⟨p4, h⟩ := h
    refine r_call c170_10 rfl rfl (Nat.le_of_ble_eq_true rfl) (okc_r rfl rfl (oK hK o439)) (g159 hK hX p4 (fun M7 x5 p6 => Bk_n ?_))
    replace h := h M7 x5 p6
    refine r_aload_n c170_13 rfl ?_
    refine r_aload_n c170_14 rfl ?_
    refine r_getIe c170_15 (oK hK o439) rfl ?_
    obtain ⟨B8, h⟩ := h
    obtain ⟨n9, h⟩ := h
    obtain ⟨p10, h⟩ := h
    refine r_call c170_18 rfl rfl (Nat.le_of_ble_eq_true rfl) (okc_r rfl rfl (oK hK o439)) (g158 hK x5 p10 (Bk_v ?_))
    refine r_iload_n c170_21 rfl ?_
    refine r_icmpP (P := ¬ (bt B8 n9 (M7 439 4)) = l1) c170_22 rfl (fun hc => ?_) (fun hc => ?_)
    · replace h := h.1 hc
      refine r_iconst c170_29 ?_
      refine r_istore_n c170_30 (Nat.le_of_ble_eq_true rfl) ?_
      refine r_iload_n c170_31 rfl ?_
      refine r_ifP (P := (0 : Int) = (0 : Int)) c170_32 rfl (fun hc => ?_) (fun hc => ?_)
      · replace h := h.1 hc
        refine r_iload_n c170_45 rfl ?_
        exact r_iret c170_46 (by decide) h
      · replace h := h.2 hc
        refine r_aload_n c170_35 rfl ?_
        refine r_dupr c170_36 ?_
        refine r_getIe c170_37 (oK hK o439) rfl ?_
        refine r_iconst c170_40 ?_
        refine r_iadd c170_41 ?_
        refine r_putI c170_42 (oK hK o439) ?_
        have x11 := FX.set (v := (w32 ((M7 439 4) + (1 : Int)))) (a := 439) (k := 4) x5 (by decide +kernel)
        refine r_iload_n c170_45 rfl ?_
        exact r_iret c170_46 (by decide) h
    · replace h := h.2 (Classical.not_not.mp hc)
      refine r_iconst c170_25 ?_
      refine r_goto c170_26 ?_
      refine r_istore_n c170_30 (Nat.le_of_ble_eq_true rfl) ?_
      refine r_iload_n c170_31 rfl ?_
      refine r_ifP (P := (1 : Int) = (0 : Int)) c170_32 rfl (fun hc => ?_) (fun hc => ?_)
      · replace h := h.1 hc
        refine r_iload_n c170_45 rfl ?_
        exact r_iret c170_46 (by decide) h
      · replace h := h.2 hc
        refine r_aload_n c170_35 rfl ?_
        refine r_dupr c170_36 ?_
        refine r_getIe c170_37 (oK hK o439) rfl ?_
        refine r_iconst c170_40 ?_
        refine r_iadd c170_41 ?_
        refine r_putI c170_42 (oK hK o439) ?_
        have x12 := FX.set (v := (w32 ((M7 439 4) + (1 : Int)))) (a := 439) (k := 4) x5 (by decide +kernel)
        refine r_iload_n c170_45 rfl ?_
        exact r_iret c170_46 (by decide) h
  · replace h := h.2 hc
    refine r_iconst c170_7 ?_
    exact r_iret c170_8 (by decide) h
theorem u171_0 {d : Nat} {l1 : Int} {M : Mem} {K : KK} {Q : RR → Mem → KK → Prop} (hK : K.1 = 922) (hX : FX M)  (h : ∃ B8 : BY, ∃ n9 : Nat, ∃ st10 : ST, TM B8 n9 (mset (mset (mset (mset (mset (mset (mset M 439 1 (0 : Int)) 439 2 l1) 439 4 (0 : Int)) 439 5 (0 : Int)) 439 6 (-1 : Int)) 439 7 (0 : Int)) 439 8 (0 : Int)) st10 ∧ (∀ (M14 : Mem), FX M14 → (FrM (mset (mset (mset (mset (mset (mset (mset M 439 1 (0 : Int)) 439 2 l1) 439 4 (0 : Int)) 439 5 (0 : Int)) 439 6 (-1 : Int)) 439 7 (0 : Int)) 439 8 (0 : Int)) M14 ∧ TM B8 n9 M14 st10 ∧ AtM M14 st10) → Q (.inl none) M14 K)) : Wp (d + 2) 171 0 [vR 439, vI l1] [] M K Q := by
  refine r_aload_n c171_0 rfl ?_
  refine r_iconst c171_1 ?_
  refine r_putI c171_2 (oK hK o439) ?_
  have x1 := FX.set (v := (0 : Int)) (a := 439) (k := 1) hX (by decide +kernel)
  refine r_aload_n c171_5 rfl ?_
  refine r_iload_n c171_6 rfl ?_
  refine r_putI c171_7 (oK hK o439) ?_
  have x2 := FX.set (v := l1) (a := 439) (k := 2) x1 (by decide +kernel)
  refine r_aload_n c171_10 rfl ?_
  refine r_iconst c171_11 ?_
  refine r_putI c171_12 (oK hK o439) ?_
  have x3 := FX.set (v := (0 : Int)) (a := 439) (k := 4) x2 (by decide +kernel)
  refine r_aload_n c171_15 rfl ?_
  refine r_iconst c171_16 ?_
  refine r_putI c171_17 (oK hK o439) ?_
  have x4 := FX.set (v := (0 : Int)) (a := 439) (k := 5) x3 (by decide +kernel)
  refine r_aload_n c171_20 rfl ?_
  refine r_iconst c171_21 ?_
  refine r_putI c171_22 (oK hK o439) ?_
  have x5 := FX.set (v := (-1 : Int)) (a := 439) (k := 6) x4 (by decide +kernel)
  refine r_aload_n c171_25 rfl ?_
  refine r_iconst c171_26 ?_
  refine r_putI c171_27 (oK hK o439) ?_
  have x6 := FX.set (v := (0 : Int)) (a := 439) (k := 7) x5 (by decide +kernel)
  refine r_aload_n c171_30 rfl ?_
  refine r_iconst c171_31 ?_
  refine r_putI c171_32 (oK hK o439) ?_
  have x7 := FX.set (v := (0 : Int)) (a := 439) (k := 8) x6 (by decide +kernel)
  refine r_aload_n c171_35 rfl ?_
  obtain ⟨B8, h⟩ := h
  obtain ⟨n9, h⟩ := h
  obtain ⟨st10, h⟩ := h
  obtain ⟨p11, h⟩ := h
  refine r_call c171_36 rfl rfl (Nat.le_of_ble_eq_true rfl) (okc_r rfl rfl (oK hK o439)) (g159 hK x7 p11 (fun M14 x12 p13 => Bk_n ?_))
  replace h := h M14 x12 p13
  exact r_ret c171_39 h
theorem u172_0 {d : Nat}  {M : Mem} {K : KK} {Q : RR → Mem → KK → Prop} (hK : K.1 = 922) (hX : FX M)  (h : Q (.inl (some (vI (w32 ((M 439 5) - (10 : Int)))))) (mset M 439 3 (M 439 6)) K) : Wp d 172 0 [vR 439] [] M K Q := by
  refine r_aload_n c172_0 rfl ?_
  refine r_aload_n c172_1 rfl ?_
  refine r_getIe c172_2 (oK hK o439) rfl ?_
  refine r_putI c172_5 (oK hK o439) ?_
  have x1 := FX.set (v := (M 439 6)) (a := 439) (k := 3) hX (by decide +kernel)
  refine r_aload_n c172_8 rfl ?_
  refine r_getIe c172_9 (oK hK o439) (ms_nk (by decide)) ?_
  refine r_bipush c172_12 ?_
  refine r_isub c172_14 ?_
  exact r_iret c172_15 (Or.inl rfl) h
