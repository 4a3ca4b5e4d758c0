/-! strips on the common: what is asked of them -/
def nSt (c : Mem) : Nat := (c 0 1).toNat
def nCe (c : Mem) : Nat := (c 0 0).toNat
def nDe (c : Mem) : Nat := (c 0 2).toNat
theorem CW.n {c : Mem} (h : CW c) : (c 0 1 = (nSt c : Int) ∧ nSt c ≤ 6) ∧ (c 0 0 = (nCe c : Int) ∧ nCe c ≤ 12) ∧ (c 0 2 = (nDe c : Int) ∧ nDe c ≤ 8) := by
  obtain ⟨h0, h1, h2, -⟩ := h
  unfold nSt nCe nDe
  omega
/-- the class's linen at a: s 0 first cells, 1 grey, 2 wets, 3 milk, 4 day and milk left -/
def LK (M : Mem) (a : Nat) (c s : Mem) : Prop := (∀ p, p < nSt c → M (a + 2) p = s 0 p ∧ M (a + 1) p = s 1 p ∧ M (a + 3) p = s 2 p ∧ M (a + 4) p = s 3 p) ∧ M a 4 = s 4 0 ∧ M a 5 = s 4 1
/-- linen as it can be -/
def LW (c s : Mem) : Prop := (∀ p, p < nSt c → (s 0 p = -1 ∨ (0 ≤ s 0 p ∧ s 0 p + c 2 p ≤ c 0 0)) ∧ (0 ≤ s 1 p ∧ s 1 p ≤ 99) ∧ (0 ≤ s 2 p ∧ s 2 p ≤ 9) ∧ (s 3 p = 0 ∨ s 3 p = 1)) ∧ (0 ≤ s 4 0 ∧ s 4 0 ≤ 2000) ∧ (0 ≤ s 4 1 ∧ s 4 1 ≤ 99) ∧
  (∀ p q, p < nSt c → q < nSt c → p ≠ q → s 0 p ≠ -1 → s 0 q ≠ -1 → s 0 p + c 2 p ≤ s 0 q ∨ s 0 q + c 2 q ≤ s 0 p)
def SKc (M : Mem) (cm a : Nat) (c s : Mem) : Prop := CC M cm c ∧ CW c ∧ LK M a c s ∧ LW c s
/-- the model's common in force -/
def MCc (M c : Mem) : Prop := (∀ k, k < 6 → M 444 k = c 0 k) ∧ (∀ i : Nat, (i : Int) < c 0 0 → M 446 i = c 1 i) ∧ (∀ i : Nat, (i : Int) < c 0 1 → M (459 + i) 0 = c 2 i ∧ M (459 + i) 1 = c 3 i) ∧ (∀ i : Nat, (i : Int) < c 0 2 → M 448 i = c 4 i) ∧ (∀ i : Nat, (i : Int) < c 0 3 → M 450 i = c 5 i)
def LMr (M : Mem) (r : Nat) (c s : Mem) : Prop := (∀ p, p < nSt c → M r p = s 0 p ∧ M r (6 + p) = s 1 p ∧ M r (12 + p) = s 2 p ∧ M r (18 + p) = s 3 p) ∧ M r 24 = s 4 0 ∧ M r 25 = s 4 1
def SM (M : Mem) (r : Nat) (c s : Mem) (dr : Int) : Prop := MCc M c ∧ CW c ∧ LMr M r c s ∧ LW c s ∧ M r 26 = dr
def sumF (f : Nat → Int) : Nat → Int
  | 0 => 0
  | k + 1 => sumF f k + f k
theorem sumF_bd {f : Nat → Int} {b : Int} (hb : 0 ≤ b) : ∀ k, (∀ i, i < k → 0 ≤ f i ∧ f i ≤ b) → 0 ≤ sumF f k ∧ sumF f k ≤ b * k := by
  intro k
  induction k with
  | zero => intro _; simp [sumF]
  | succ k ih =>
    intro h
    have := ih (fun i hi => h i (by omega))
    have h2 := h k (by omega)
    simp only [sumF]
    have e : b * ((k + 1 : Nat) : Int) = b * k + b := by rw [Int.natCast_add, Int.mul_add]; simp
    omega
theorem sumF_c {f g : Nat → Int} : ∀ k, (∀ i, i < k → f i = g i) → sumF f k = sumF g k := by
  intro k
  induction k with
  | zero => intro _; rfl
  | succ k ih => intro h; simp only [sumF]; rw [ih (fun i hi => h i (by omega)), h k (by omega)]
def fsR (P : Nat → Bool) : Nat → Nat → Int
  | 0, _ => -1
  | k + 1, i => if P i = true then (i : Int) else fsR P k (i + 1)
theorem fsR_sp {P : Nat → Bool} : ∀ k i, (fsR P k i = -1 ∧ ∀ j, i ≤ j → j < i + k → ¬ P j = true) ∨ (∃ j : Nat, fsR P k i = (j : Int) ∧ i ≤ j ∧ j < i + k ∧ P j = true ∧ ∀ j', i ≤ j' → j' < j → ¬ P j' = true) := by
  intro k
  induction k with
  | zero => intro i; exact Or.inl ⟨rfl, fun j h1 h2 => by omega⟩
  | succ k ih =>
    intro i
    by_cases h : P i = true
    · exact Or.inr ⟨i, by simp only [fsR]; rw [if_pos h], Nat.le_refl _, by omega, h, fun j' h1 h2 => by omega⟩
    · have e : fsR P (k + 1) i = fsR P k (i + 1) := by simp only [fsR]; rw [if_neg h]
      rw [e]
      rcases ih (i + 1) with ⟨h1, h2⟩ | ⟨j, h1, h2, h3, h4, h5⟩
      · refine Or.inl ⟨h1, fun j h3 h4 => ?_⟩
        by_cases hj : j = i
        · subst hj; exact h
        · exact h2 j (by omega) (by omega)
      · refine Or.inr ⟨j, h1, by omega, by omega, h4, fun j' h6 h7 => ?_⟩
        by_cases hj : j' = i
        · subst hj; exact h
        · exact h5 j' (by omega) h7
def onP (c s : Mem) (cell : Int) (p : Nat) : Bool := decide (s 0 p ≠ -1) && decide (s 0 p ≤ cell) && decide (cell < s 0 p + c 2 p)
theorem onP_iff {c s : Mem} {cell : Int} {p : Nat} : onP c s cell p = true ↔ s 0 p ≠ -1 ∧ s 0 p ≤ cell ∧ cell < s 0 p + c 2 p := by
  simp [onP]; omega
/-- the strip that lies on a cell -/
def lyOn (c s : Mem) (cell : Int) : Int := fsR (onP c s cell) (nSt c) 0
def rainS (c : Mem) (d : Int) : Int := if c 0 3 ≤ 0 ∨ d < 0 then 0 else c 5 (d.tmod (c 0 3)).toNat
def sunS (c : Mem) (x m : Int) : Int := if x < 0 then 0 else sumF (fun j => c 1 (x.toNat + j)) m.toNat
def greyS (c s : Mem) : Int := sumF (s 1) (nSt c)
def bitI (a k : Nat) : Int := if a.testBit k = true then 1 else 0
def yardS (c : Mem) (set : Nat) : Int := sumF (fun p => bitI set p * c 2 p) (nSt c)
def deedS (c : Mem) (set : Nat) : Int := sumF (fun p => bitI set p * c 4 p) (nDe c)
/-- bits of those below k for which P holds -/
def bitsF (P : Nat → Bool) : Nat → Nat
  | 0 => 0
  | k + 1 => bitsF P k ||| (if P k = true then 2 ^ k else 0)
theorem jor_0 {a : Nat} (h : a < 2147483648) : jor (a : Int) 0 = (a : Int) := by
  have := jor_n (b := 0) h (by decide)
  simpa using this
theorem jshl_1 {k : Nat} (hk : k < 31) : jshl 1 (k : Int) = ((2 ^ k : Nat) : Int) := by
  have h2 : 2 ^ k ≤ 2 ^ 30 := Nat.pow_le_pow_right (by decide) (by omega)
  have := jshl_n (a := 1) (k := k) (by omega) (by omega)
  rwa [Nat.one_mul] at this
theorem bitsF_lt {P : Nat → Bool} : ∀ k, bitsF P k < 2 ^ k := by
  intro k
  induction k with
  | zero => exact Nat.one_pos
  | succ k ih =>
    simp only [bitsF]
    have h1 : bitsF P k < 2 ^ (k + 1) := Nat.lt_of_lt_of_le ih (Nat.pow_le_pow_right (by decide) (by omega))
    refine Nat.or_lt_two_pow h1 ?_
    split
    · exact Nat.pow_lt_pow_right (by decide) (by omega)
    · exact Nat.two_pow_pos _
theorem bitsF_tb {P : Nat → Bool} : ∀ k i, (bitsF P k).testBit i = (decide (i < k) && P i) := by
  intro k
  induction k with
  | zero => intro i; simp [bitsF]
  | succ k ih =>
    intro i
    simp only [bitsF]
    rw [Nat.testBit_or, ih i]
    by_cases h : P k = true
    · rw [if_pos h, tb_pow]
      by_cases hi : k = i
      · subst hi; simp [h]
      · have : (i < k + 1) ↔ i < k := by omega
        simp [hi, this]
    · rw [if_neg h, Nat.zero_testBit]
      by_cases hi : k = i
      · subst hi; simp [h]
      · have : (i < k + 1) ↔ i < k := by omega
        simp [this]
def whiteS (c s : Mem) : Nat := bitsF (fun p => decide (s 1 p = 0)) (nSt c)
theorem u7_0 {d : Nat} {l0 : Nat} {l1 : Int} {M : Mem} {K : KK} {Q : RR → Mem → KK → Prop} (hK : K.1 = 923) (hX : FX M) (k0 : isO 923 l0 0 = true) (h : ((M l0 8) ≤ (0 : Int) → Q (.inl (some (vI (0 : Int)))) M K) ∧ (¬ ((M l0 8) ≤ (0 : Int)) → ((0 : Int) ≤ l1 → (M l0 8) ≠ 0 ∧ (0 ≤ (Int.tmod l1 (M l0 8)) ∧ (Int.tmod l1 (M l0 8)) < (7 : Int)) ∧ Q (.inl (some (vI (M (l0 + 5) (Int.toNat (Int.tmod l1 (M l0 8))))))) M K) ∧ (¬ ((0 : Int) ≤ l1) → Q (.inl (some (vI (0 : Int)))) M K))) : Wp d 7 0 [vR l0, vI l1] [] M K Q := by
  refine r_aload_n c7_0 rfl ?_
  refine r_getIe c7_1 (oK hK k0) rfl ?_
  refine r_ifP (P := (M l0 8) ≤ (0 : Int)) c7_4 rfl (fun hc1 => ?_) (fun hc1 => ?_)
  · replace h := h.1 hc1
    refine r_iconst c7_11 ?_
    refine r_goto c7_12 ?_
    exact r_iret c7_26 (Or.inl rfl) h
  · replace h := h.2 hc1
    refine r_iload_n c7_7 rfl ?_
    refine r_ifP (P := (0 : Int) ≤ l1) c7_8 rfl (fun hc2 => ?_) (fun hc2 => ?_)
    · replace h := h.1 hc2
      refine r_aload_n c7_15 rfl ?_
      refine r_getR c7_16 (oK hK k0) (fx0_4 hX k0) (by omega) ?_
      refine r_iload_n c7_19 rfl ?_
      refine r_aload_n c7_20 rfl ?_
      refine r_getIe c7_21 (oK hK k0) rfl ?_
      obtain ⟨s3, h⟩ := h
      refine r_irem c7_24 s3 ?_
      obtain ⟨s4, h⟩ := h
      refine r_iae c7_25 (oK hK (q0_4 k0)) (bd (z0_4 k0) s4) rfl ?_
      exact r_iret c7_26 (Or.inl rfl) h
    · replace h := h.2 hc2
      refine r_iconst c7_11 ?_
      refine r_goto c7_12 ?_
      exact r_iret c7_26 (Or.inl rfl) h
theorem u8_0 {d : Nat} {l0 : Nat} {l1 : Int} {l2 : Int} {M : Mem} {K : KK} {Q : RR → Mem → KK → Prop} (hK : K.1 = 923) (hX : FX M) (k0 : isO 923 l0 0 = true) (h : Wp d 8 5 [vR l0, vI l1, vI l2, vI (0 : Int), vI l1] [] M K Q) : Wp d 8 0 [vR l0, vI l1, vI l2, vU, vU] [] M K Q := by
  refine r_iconst c8_0 ?_
  refine r_istore_n c8_1 (Nat.le_of_ble_eq_true rfl) ?_
  refine r_iload_n c8_2 rfl ?_
  refine r_istore c8_3 (Nat.le_of_ble_eq_true rfl) ?_
  exact h
theorem u8_5 {d : Nat} {l0 : Nat} {l1 : Int} {l2 : Int} {l3 : Int} {l4 : Int} {M : Mem} {K : KK} {Q : RR → Mem → KK → Prop} (hK : K.1 = 923) (hX : FX M) (k0 : isO 923 l0 0 = true) (h : (l4 < (0 : Int) → Q (.inl (some (vI l3))) M K) ∧ (¬ (l4 < (0 : Int)) → ((w32 (l1 + l2)) ≤ l4 → Q (.inl (some (vI l3))) M K) ∧ (¬ ((w32 (l1 + l2)) ≤ l4) → ((M l0 5) ≤ l4 → Q (.inl (some (vI l3))) M K) ∧ (¬ ((M l0 5) ≤ l4) → (0 ≤ l4 ∧ l4 < (12 : Int)) ∧ Wp d 8 5 [vR l0, vI l1, vI l2, vI (w32 (l3 + (M (l0 + 1) (Int.toNat l4)))), vI (w32 (l4 + 1))] [] M K Q)))) : Wp d 8 5 [vR l0, vI l1, vI l2, vI l3, vI l4] [] M K Q := by
  refine r_iload c8_5 rfl ?_
  refine r_ifP (P := l4 < (0 : Int)) c8_7 rfl (fun hc1 => ?_) (fun hc1 => ?_)
  · replace h := h.1 hc1
    refine r_iload_n c8_43 rfl ?_
    exact r_iret c8_44 (Or.inl rfl) h
  · replace h := h.2 hc1
    refine r_iload c8_10 rfl ?_
    refine r_iload_n c8_12 rfl ?_
    refine r_iload_n c8_13 rfl ?_
    refine r_iadd c8_14 ?_
    refine r_icmpP (P := (w32 (l1 + l2)) ≤ l4) c8_15 rfl (fun hc2 => ?_) (fun hc2 => ?_)
    · replace h := h.1 hc2
      refine r_iload_n c8_43 rfl ?_
      exact r_iret c8_44 (Or.inl rfl) h
    · replace h := h.2 hc2
      refine r_iload c8_18 rfl ?_
      refine r_aload_n c8_20 rfl ?_
      refine r_getIe c8_21 (oK hK k0) rfl ?_
      refine r_icmpP (P := (M l0 5) ≤ l4) c8_24 rfl (fun hc3 => ?_) (fun hc3 => ?_)
      · replace h := h.1 hc3
        refine r_iload_n c8_43 rfl ?_
        exact r_iret c8_44 (Or.inl rfl) h
      · replace h := h.2 hc3
        refine r_iload_n c8_27 rfl ?_
        refine r_aload_n c8_28 rfl ?_
        refine r_getR c8_29 (oK hK k0) (fx0_0 hX k0) (by omega) ?_
        refine r_iload c8_32 rfl ?_
        obtain ⟨s4, h⟩ := h
        refine r_iae c8_34 (oK hK (q0_0 k0)) (bd (z0_0 k0) s4) rfl ?_
        refine r_iadd c8_35 ?_
        refine r_istore_n c8_36 (Nat.le_of_ble_eq_true rfl) ?_
        refine r_iinc c8_37 rfl ?_
        refine r_goto c8_40 ?_
        exact h
theorem u9_0 {d : Nat} {l0 : Nat} {l1 : Int} {M : Mem} {K : KK} {Q : RR → Mem → KK → Prop} (hK : K.1 = 923) (hX : FX M) (k0 : isO 923 l0 0 = true) (h : Wp d 9 4 [vR l0, vI l1, vI (0 : Int), vI (0 : Int)] [] M K Q) : Wp d 9 0 [vR l0, vI l1, vU, vU] [] M K Q := by
  refine r_iconst c9_0 ?_
  refine r_istore_n c9_1 (Nat.le_of_ble_eq_true rfl) ?_
  refine r_iconst c9_2 ?_
  refine r_istore_n c9_3 (Nat.le_of_ble_eq_true rfl) ?_
  exact h
theorem u9_4 {d : Nat} {l0 : Nat} {l1 : Int} {l2 : Int} {l3 : Int} {M : Mem} {K : KK} {Q : RR → Mem → KK → Prop} (hK : K.1 = 923) (hX : FX M) (k0 : isO 923 l0 0 = true) (h : ((M l0 6) ≤ l3 → Q (.inl (some (vI l2))) M K) ∧ (¬ ((M l0 6) ≤ l3) → (0 ≤ l3 ∧ l3 < (6 : Int)) ∧ Wp d 9 4 [vR l0, vI l1, vI (w32 (l2 + (w32 ((jand (jshr l1 l3) (1 : Int)) * (M (l0 + 2) (Int.toNat l3)))))), vI (w32 (l3 + 1))] [] M K Q)) : Wp d 9 4 [vR l0, vI l1, vI l2, vI l3] [] M K Q := by
  refine r_iload_n c9_4 rfl ?_
  refine r_aload_n c9_5 rfl ?_
  refine r_getIe c9_6 (oK hK k0) rfl ?_
  refine r_icmpP (P := (M l0 6) ≤ l3) c9_9 rfl (fun hc1 => ?_) (fun hc1 => ?_)
  · replace h := h.1 hc1
    refine r_iload_n c9_33 rfl ?_
    exact r_iret c9_34 (Or.inl rfl) h
  · replace h := h.2 hc1
    refine r_iload_n c9_12 rfl ?_
    refine r_iload_n c9_13 rfl ?_
    refine r_iload_n c9_14 rfl ?_
    refine r_ishr c9_15 ?_
    refine r_iconst c9_16 ?_
    refine r_iand c9_17 ?_
    refine r_aload_n c9_18 rfl ?_
    refine r_getR c9_19 (oK hK k0) (fx0_1 hX k0) (by omega) ?_
    refine r_iload_n c9_22 rfl ?_
    obtain ⟨s2, h⟩ := h
    refine r_iae c9_23 (oK hK (q0_1 k0)) (bd (z0_1 k0) s2) rfl ?_
    refine r_imul c9_24 ?_
    refine r_iadd c9_25 ?_
    refine r_istore_n c9_26 (Nat.le_of_ble_eq_true rfl) ?_
    refine r_iinc c9_27 rfl ?_
    refine r_goto c9_30 ?_
    exact h
theorem u10_0 {d : Nat} {l0 : Nat} {l1 : Int} {M : Mem} {K : KK} {Q : RR → Mem → KK → Prop} (hK : K.1 = 923) (hX : FX M) (k0 : isO 923 l0 0 = true) (h : Wp d 10 4 [vR l0, vI l1, vI (0 : Int), vI (0 : Int)] [] M K Q) : Wp d 10 0 [vR l0, vI l1, vU, vU] [] M K Q := by
  refine r_iconst c10_0 ?_
  refine r_istore_n c10_1 (Nat.le_of_ble_eq_true rfl) ?_
  refine r_iconst c10_2 ?_
  refine r_istore_n c10_3 (Nat.le_of_ble_eq_true rfl) ?_
  exact h
theorem u10_4 {d : Nat} {l0 : Nat} {l1 : Int} {l2 : Int} {l3 : Int} {M : Mem} {K : KK} {Q : RR → Mem → KK → Prop} (hK : K.1 = 923) (hX : FX M) (k0 : isO 923 l0 0 = true) (h : ((M l0 7) ≤ l3 → Q (.inl (some (vI l2))) M K) ∧ (¬ ((M l0 7) ≤ l3) → (0 ≤ l3 ∧ l3 < (8 : Int)) ∧ Wp d 10 4 [vR l0, vI l1, vI (w32 (l2 + (w32 ((jand (jshr l1 l3) (1 : Int)) * (M (l0 + 4) (Int.toNat l3)))))), vI (w32 (l3 + 1))] [] M K Q)) : Wp d 10 4 [vR l0, vI l1, vI l2, vI l3] [] M K Q := by
  refine r_iload_n c10_4 rfl ?_
  refine r_aload_n c10_5 rfl ?_
  refine r_getIe c10_6 (oK hK k0) rfl ?_
  refine r_icmpP (P := (M l0 7) ≤ l3) c10_9 rfl (fun hc1 => ?_) (fun hc1 => ?_)
  · replace h := h.1 hc1
    refine r_iload_n c10_33 rfl ?_
    exact r_iret c10_34 (Or.inl rfl) h
  · replace h := h.2 hc1
    refine r_iload_n c10_12 rfl ?_
    refine r_iload_n c10_13 rfl ?_
    refine r_iload_n c10_14 rfl ?_
    refine r_ishr c10_15 ?_
    refine r_iconst c10_16 ?_
    refine r_iand c10_17 ?_
    refine r_aload_n c10_18 rfl ?_
    refine r_getR c10_19 (oK hK k0) (fx0_3 hX k0) (by omega) ?_
    refine r_iload_n c10_22 rfl ?_
    obtain ⟨s2, h⟩ := h
    refine r_iae c10_23 (oK hK (q0_3 k0)) (bd (z0_3 k0) s2) rfl ?_
    refine r_imul c10_24 ?_
    refine r_iadd c10_25 ?_
    refine r_istore_n c10_26 (Nat.le_of_ble_eq_true rfl) ?_
    refine r_iinc c10_27 rfl ?_
    refine r_goto c10_30 ?_
    exact h
theorem u11_0 {d : Nat} {l0 : Nat} {l1 : Int} {l2 : Int} {M : Mem} {K : KK} {Q : RR → Mem → KK → Prop} (hK : K.1 = 923) (hX : FX M) (k0 : isO 923 l0 0 = true) (h : ((M l0 10) < (jabs (w32 (l1 - l2))) → Q (.inl (some (vI (0 : Int)))) M K) ∧ (¬ ((M l0 10) < (jabs (w32 (l1 - l2)))) → Q (.inl (some (vI (1 : Int)))) M K)) : Wp d 11 0 [vR l0, vI l1, vI l2] [] M K Q := by
  refine r_iload_n c11_0 rfl ?_
  refine r_iload_n c11_1 rfl ?_
  refine r_isub c11_2 ?_
  refine r_abs c11_3 (Nat.le_of_ble_eq_true rfl) ?_
  refine r_aload_n c11_6 rfl ?_
  refine r_getIe c11_7 (oK hK k0) rfl ?_
  refine r_icmpP (P := (M l0 10) < (jabs (w32 (l1 - l2)))) c11_10 rfl (fun hc1 => ?_) (fun hc1 => ?_)
  · replace h := h.1 hc1
    refine r_iconst c11_17 ?_
    exact r_iret c11_18 (by decide) h
  · replace h := h.2 hc1
    refine r_iconst c11_13 ?_
    refine r_goto c11_14 ?_
    exact r_iret c11_18 (by decide) h
theorem u38_0 {d : Nat} {l0 : Nat} {l1 : Nat} {l2 : Int} {M : Mem} {K : KK} {Q : RR → Mem → KK → Prop} (hK : K.1 = 923) (hX : FX M) (k0 : isO 923 l0 3 = true) (k1 : isO 923 l1 0 = true) (h : Wp d 38 2 [vR l0, vR l1, vI l2, vI (0 : Int)] [] M K Q) : Wp d 38 0 [vR l0, vR l1, vI l2, vU] [] M K Q := by
  refine r_iconst c38_0 ?_
  refine r_istore_n c38_1 (Nat.le_of_ble_eq_true rfl) ?_
  exact h
theorem u38_2 {d : Nat} {l0 : Nat} {l1 : Nat} {l2 : Int} {l3 : Int} {M : Mem} {K : KK} {Q : RR → Mem → KK → Prop} (hK : K.1 = 923) (hX : FX M) (k0 : isO 923 l0 3 = true) (k1 : isO 923 l1 0 = true) (h : ((M l1 6) ≤ l3 → Q (.inl (some (vI (-1 : Int)))) M K) ∧ (¬ ((M l1 6) ≤ l3) → (0 ≤ l3 ∧ l3 < (6 : Int)) ∧ ((M (l0 + 2) (Int.toNat l3)) = (-1 : Int) → Wp d 38 2 [vR l0, vR l1, vI l2, vI (w32 (l3 + 1))] [] M K Q) ∧ (¬ ((M (l0 + 2) (Int.toNat l3)) = (-1 : Int)) → (0 ≤ l3 ∧ l3 < (6 : Int)) ∧ (l2 < (M (l0 + 2) (Int.toNat l3)) → Wp d 38 2 [vR l0, vR l1, vI l2, vI (w32 (l3 + 1))] [] M K Q) ∧ (¬ (l2 < (M (l0 + 2) (Int.toNat l3))) → (0 ≤ l3 ∧ l3 < (6 : Int)) ∧ (0 ≤ l3 ∧ l3 < (6 : Int)) ∧ ((w32 ((M (l0 + 2) (Int.toNat l3)) + (M (l1 + 2) (Int.toNat l3)))) ≤ l2 → Wp d 38 2 [vR l0, vR l1, vI l2, vI (w32 (l3 + 1))] [] M K Q) ∧ (¬ ((w32 ((M (l0 + 2) (Int.toNat l3)) + (M (l1 + 2) (Int.toNat l3)))) ≤ l2) → Q (.inl (some (vI l3))) M K))))) : Wp d 38 2 [vR l0, vR l1, vI l2, vI l3] [] M K Q := by
  refine r_iload_n c38_2 rfl ?_
  refine r_aload_n c38_3 rfl ?_
  refine r_getIe c38_4 (oK hK k1) rfl ?_
  refine r_icmpP (P := (M l1 6) ≤ l3) c38_7 rfl (fun hc1 => ?_) (fun hc1 => ?_)
  · replace h := h.1 hc1
    refine r_iconst c38_55 ?_
    exact r_iret c38_56 (Or.inl rfl) h
  · replace h := h.2 hc1
    refine r_aload_n c38_10 rfl ?_
    refine r_getR c38_11 (oK hK k0) (fx3_1 hX k0) (by omega) ?_
    refine r_iload_n c38_14 rfl ?_
    obtain ⟨s2, h⟩ := h
    refine r_iae c38_15 (oK hK (q3_1 k0)) (bd (z3_1 k0) s2) rfl ?_
    refine r_iconst c38_16 ?_
    refine r_icmpP (P := (M (l0 + 2) (Int.toNat l3)) = (-1 : Int)) c38_17 rfl (fun hc3 => ?_) (fun hc3 => ?_)
    · replace h := h.1 hc3
      refine r_iinc c38_49 rfl ?_
      refine r_goto c38_52 ?_
      exact h
    · replace h := h.2 hc3
      refine r_aload_n c38_20 rfl ?_
      refine r_getR c38_21 (oK hK k0) (fx3_1 hX k0) (by omega) ?_
      refine r_iload_n c38_24 rfl ?_
      obtain ⟨s4, h⟩ := h
      refine r_iae c38_25 (oK hK (q3_1 k0)) (bd (z3_1 k0) s4) rfl ?_
      refine r_iload_n c38_26 rfl ?_
      refine r_icmpP (P := l2 < (M (l0 + 2) (Int.toNat l3))) c38_27 rfl (fun hc5 => ?_) (fun hc5 => ?_)
      · replace h := h.1 hc5
        refine r_iinc c38_49 rfl ?_
        refine r_goto c38_52 ?_
        exact h
      · replace h := h.2 hc5
        refine r_iload_n c38_30 rfl ?_
        refine r_aload_n c38_31 rfl ?_
        refine r_getR c38_32 (oK hK k0) (fx3_1 hX k0) (by omega) ?_
        refine r_iload_n c38_35 rfl ?_
        obtain ⟨s6, h⟩ := h
        refine r_iae c38_36 (oK hK (q3_1 k0)) (bd (z3_1 k0) s6) rfl ?_
        refine r_aload_n c38_37 rfl ?_
        refine r_getR c38_38 (oK hK k1) (fx0_1 hX k1) (by omega) ?_
        refine r_iload_n c38_41 rfl ?_
        obtain ⟨s7, h⟩ := h
        refine r_iae c38_42 (oK hK (q0_1 k1)) (bd (z0_1 k1) s7) rfl ?_
        refine r_iadd c38_43 ?_
        refine r_icmpP (P := (w32 ((M (l0 + 2) (Int.toNat l3)) + (M (l1 + 2) (Int.toNat l3)))) ≤ l2) c38_44 rfl (fun hc8 => ?_) (fun hc8 => ?_)
        · replace h := h.1 hc8
          refine r_iinc c38_49 rfl ?_
          refine r_goto c38_52 ?_
          exact h
        · replace h := h.2 hc8
          refine r_iload_n c38_47 rfl ?_
          exact r_iret c38_48 (Or.inl rfl) h
theorem u41_0 {d : Nat} {l0 : Nat} {l1 : Nat} {M : Mem} {K : KK} {Q : RR → Mem → KK → Prop} (hK : K.1 = 923) (hX : FX M) (k0 : isO 923 l0 3 = true) (k1 : isO 923 l1 0 = true) (h : Wp d 41 4 [vR l0, vR l1, vI (0 : Int), vI (0 : Int)] [] M K Q) : Wp d 41 0 [vR l0, vR l1, vU, vU] [] M K Q := by
  refine r_iconst c41_0 ?_
  refine r_istore_n c41_1 (Nat.le_of_ble_eq_true rfl) ?_
  refine r_iconst c41_2 ?_
  refine r_istore_n c41_3 (Nat.le_of_ble_eq_true rfl) ?_
  exact h
theorem u41_4 {d : Nat} {l0 : Nat} {l1 : Nat} {l2 : Int} {l3 : Int} {M : Mem} {K : KK} {Q : RR → Mem → KK → Prop} (hK : K.1 = 923) (hX : FX M) (k0 : isO 923 l0 3 = true) (k1 : isO 923 l1 0 = true) (h : ((M l1 6) ≤ l3 → Q (.inl (some (vI l2))) M K) ∧ (¬ ((M l1 6) ≤ l3) → (0 ≤ l3 ∧ l3 < (6 : Int)) ∧ (¬ (M (l0 + 1) (Int.toNat l3)) = (0 : Int) → Wp d 41 4 [vR l0, vR l1, vI (jor l2 (0 : Int)), vI (w32 (l3 + 1))] [] M K Q) ∧ ((M (l0 + 1) (Int.toNat l3)) = (0 : Int) → Wp d 41 4 [vR l0, vR l1, vI (jor l2 (jshl (1 : Int) l3)), vI (w32 (l3 + 1))] [] M K Q))) : Wp d 41 4 [vR l0, vR l1, vI l2, vI l3] [] M K Q := by
  refine r_iload_n c41_4 rfl ?_
  refine r_aload_n c41_5 rfl ?_
  refine r_getIe c41_6 (oK hK k1) rfl ?_
  refine r_icmpP (P := (M l1 6) ≤ l3) c41_9 rfl (fun hc1 => ?_) (fun hc1 => ?_)
  · replace h := h.1 hc1
    refine r_iload_n c41_37 rfl ?_
    exact r_iret c41_38 (Or.inl rfl) h
  · replace h := h.2 hc1
    refine r_iload_n c41_12 rfl ?_
    refine r_aload_n c41_13 rfl ?_
    refine r_getR c41_14 (oK hK k0) (fx3_0 hX k0) (by omega) ?_
    refine r_iload_n c41_17 rfl ?_
    obtain ⟨s2, h⟩ := h
    refine r_iae c41_18 (oK hK (q3_0 k0)) (bd (z3_0 k0) s2) rfl ?_
    refine r_ifP (P := ¬ (M (l0 + 1) (Int.toNat l3)) = (0 : Int)) c41_19 rfl (fun hc3 => ?_) (fun hc3 => ?_)
    · replace h := h.1 hc3
      refine r_iconst c41_28 ?_
      refine r_ior c41_29 ?_
      refine r_istore_n c41_30 (Nat.le_of_ble_eq_true rfl) ?_
      refine r_iinc c41_31 rfl ?_
      refine r_goto c41_34 ?_
      exact h
    · have hc4 := Classical.not_not.mp hc3
      replace h := h.2 hc4
      refine r_iconst c41_22 ?_
      refine r_iload_n c41_23 rfl ?_
      refine r_ishl c41_24 ?_
      refine r_goto c41_25 ?_
      refine r_ior c41_29 ?_
      refine r_istore_n c41_30 (Nat.le_of_ble_eq_true rfl) ?_
      refine r_iinc c41_31 rfl ?_
      refine r_goto c41_34 ?_
      exact h
theorem u43_0 {d : Nat} {l0 : Nat} {l1 : Nat} {M : Mem} {K : KK} {Q : RR → Mem → KK → Prop} (hK : K.1 = 923) (hX : FX M) (k0 : isO 923 l0 3 = true) (k1 : isO 923 l1 0 = true) (h : Wp d 43 4 [vR l0, vR l1, vI (0 : Int), vI (0 : Int)] [] M K Q) : Wp d 43 0 [vR l0, vR l1, vU, vU] [] M K Q := by
  refine r_iconst c43_0 ?_
  refine r_istore_n c43_1 (Nat.le_of_ble_eq_true rfl) ?_
  refine r_iconst c43_2 ?_
  refine r_istore_n c43_3 (Nat.le_of_ble_eq_true rfl) ?_
  exact h
theorem u43_4 {d : Nat} {l0 : Nat} {l1 : Nat} {l2 : Int} {l3 : Int} {M : Mem} {K : KK} {Q : RR → Mem → KK → Prop} (hK : K.1 = 923) (hX : FX M) (k0 : isO 923 l0 3 = true) (k1 : isO 923 l1 0 = true) (h : ((M l1 6) ≤ l3 → Q (.inl (some (vI l2))) M K) ∧ (¬ ((M l1 6) ≤ l3) → (0 ≤ l3 ∧ l3 < (6 : Int)) ∧ Wp d 43 4 [vR l0, vR l1, vI (w32 (l2 + (M (l0 + 1) (Int.toNat l3)))), vI (w32 (l3 + 1))] [] M K Q)) : Wp d 43 4 [vR l0, vR l1, vI l2, vI l3] [] M K Q := by
  refine r_iload_n c43_4 rfl ?_
  refine r_aload_n c43_5 rfl ?_
  refine r_getIe c43_6 (oK hK k1) rfl ?_
  refine r_icmpP (P := (M l1 6) ≤ l3) c43_9 rfl (fun hc1 => ?_) (fun hc1 => ?_)
  · replace h := h.1 hc1
    refine r_iload_n c43_27 rfl ?_
    exact r_iret c43_28 (Or.inl rfl) h
  · replace h := h.2 hc1
    refine r_iload_n c43_12 rfl ?_
    refine r_aload_n c43_13 rfl ?_
    refine r_getR c43_14 (oK hK k0) (fx3_0 hX k0) (by omega) ?_
    refine r_iload_n c43_17 rfl ?_
    obtain ⟨s2, h⟩ := h
    refine r_iae c43_18 (oK hK (q3_0 k0)) (bd (z3_0 k0) s2) rfl ?_
    refine r_iadd c43_19 ?_
    refine r_istore_n c43_20 (Nat.le_of_ble_eq_true rfl) ?_
    refine r_iinc c43_21 rfl ?_
    refine r_goto c43_24 ?_
    exact h
theorem u144_0 {d : Nat} {l0 : Int} {l1 : Int} {M : Mem} {K : KK} {Q : RR → Mem → KK → Prop} (hK : K.1 = 923) (hX : FX M)  (h : Q (.inl (some (vI (jshl (w32 ((jshl (1 : Int) l1) - (1 : Int))) l0)))) M K) : Wp d 144 0 [vI l0, vI l1] [] M K Q := by
  refine r_iconst c144_0 ?_
  refine r_iload_n c144_1 rfl ?_
  refine r_ishl c144_2 ?_
  refine r_iconst c144_3 ?_
  refine r_isub c144_4 ?_
  refine r_iload_n c144_5 rfl ?_
  refine r_ishl c144_6 ?_
  exact r_iret c144_7 (Or.inl rfl) h
section LR
variable {d : Nat} {M : Mem} {K : KK} {Q : RR → Mem → KK → Prop} {cm a : Nat} {c s : Mem}
theorem CC.g (h : CC M cm c) (hw : CW c) : M cm 5 = (nCe c : Int) ∧ M cm 6 = (nSt c : Int) ∧ M cm 7 = (nDe c : Int) ∧ M cm 8 = c 0 3 ∧ M cm 9 = c 0 4 ∧ M cm 10 = c 0 5 :=
  ⟨(h.1 0 (by decide)).trans hw.n.2.1.1, (h.1 1 (by decide)).trans hw.n.1.1, (h.1 2 (by decide)).trans hw.n.2.2.1, h.1 3 (by decide), h.1 4 (by decide), h.1 5 (by decide)⟩
theorem CC.a1 (h : CC M cm c) {i : Nat} (hi : (i : Int) < c 0 0) : M (cm + 1) i = c 1 i := h.2 1 (by decide) (by decide) i hi
theorem CC.a2 (h : CC M cm c) {i : Nat} (hi : (i : Int) < c 0 1) : M (cm + 2) i = c 2 i := h.2 2 (by decide) (by decide) i hi
theorem CC.a3 (h : CC M cm c) {i : Nat} (hi : (i : Int) < c 0 1) : M (cm + 3) i = c 3 i := h.2 3 (by decide) (by decide) i hi
theorem CC.a4 (h : CC M cm c) {i : Nat} (hi : (i : Int) < c 0 2) : M (cm + 4) i = c 4 i := h.2 4 (by decide) (by decide) i hi
theorem CC.a5 (h : CC M cm c) {i : Nat} (hi : (i : Int) < c 0 3) : M (cm + 5) i = c 5 i := h.2 5 (by decide) (by decide) i hi
theorem CW.y (h : CW c) {p : Nat} (hp : p < nSt c) : 1 ≤ c 2 p ∧ c 2 p ≤ 6 := h.2.2.2.2.2.2.2.1 p (by have := h.n.1.1; omega)
theorem CW.su (h : CW c) {p : Nat} (hp : p < nCe c) : 0 ≤ c 1 p ∧ c 1 p ≤ 9 := h.2.2.2.2.2.2.1 p (by have := h.n.2.1.1; omega)
theorem CW.de (h : CW c) {p : Nat} (hp : p < nDe c) : 1 ≤ c 4 p ∧ c 4 p ≤ 9 := h.2.2.2.2.2.2.2.2.2.1 p (by have := h.n.2.2.1; omega)
theorem g7 {dy : Int} (hK : K.1 = 923) (hX : FX M) (hcm : isO 923 cm 0 = true) (h : CC M cm c ∧ CW c) (k : Q (.inl (some (vI (rainS c dy)))) M K) : Wm d 7 [vR cm, vI dy] M K Q := by
  obtain ⟨hc, hw⟩ := h
  have e8 : M cm 8 = c 0 3 := hc.1 3 (by decide)
  obtain ⟨-, -, -, hr, -⟩ := hw
  unfold rainS at k
  refine u7_0 hK hX hcm ⟨fun h => ?_, fun h => ⟨fun h0 => ⟨by omega, ?_, ?_⟩, fun h0 => ?_⟩⟩
  · rwa [if_pos (Or.inl (by omega))] at k
  · have := Int.tmod_nonneg (c 0 3) h0
    have := Int.tmod_lt_of_pos dy (show 0 < c 0 3 by omega)
    rw [e8]; omega
  · rw [if_neg (by omega)] at k
    have h1 := Int.tmod_nonneg (c 0 3) h0
    have h2 := Int.tmod_lt_of_pos dy (show 0 < c 0 3 by omega)
    rw [e8, hc.a5 (by omega)]; exact k
  · rwa [if_pos (Or.inr (by omega))] at k
theorem g8 {x m : Int} (hK : K.1 = 923) (hX : FX M) (hcm : isO 923 cm 0 = true) (h : CC M cm c ∧ CW c ∧ (x = -1 ∨ (0 ≤ x ∧ x + m ≤ c 0 0)) ∧ 0 ≤ m ∧ m ≤ 12) (k : Q (.inl (some (vI (sunS c x m)))) M K) : Wm d 8 [vR cm, vI x, vI m] M K Q := by
  obtain ⟨hc, hw, hx, hm⟩ := h
  obtain ⟨e5, -⟩ := hc.g hw
  have hn := hw.n.2.1
  refine u8_0 hK hX hcm ?_
  rcases hx with rfl | hx
  · refine u8_5 hK hX hcm ⟨fun _ => ?_, fun h => absurd (by decide) h⟩
    exact k
  · obtain ⟨x, rfl⟩ : ∃ x' : Nat, x = (x' : Int) := ⟨x.toNat, by omega⟩
    obtain ⟨m, rfl⟩ : ∃ x' : Nat, m = (x' : Int) := ⟨m.toNat, by omega⟩
    have e : sunS c (x : Int) (m : Int) = sumF (fun j => c 1 (x + j)) m := by
      unfold sunS; rw [if_neg (by omega), Int.toNat_natCast, Int.toNat_natCast]
    rw [e] at k
    have loop : ∀ f i, i + f = m → Wp d 8 5 [vR cm, vI (x : Int), vI (m : Int), vI (sumF (fun j => c 1 (x + j)) i), vI ((x + i : Nat) : Int)] [] M K Q := by
      intro f
      induction f with
      | zero =>
        intro i hi
        have : i = m := by omega
        subst this
        refine u8_5 hK hX hcm ⟨fun h => by omega, fun _ => ⟨fun _ => k, fun h => ?_⟩⟩
        rw [w32_id (by omega)] at h; omega
      | succ f ih =>
        intro i hi
        have hb := sumF_bd (f := fun j => c 1 (x + j)) (b := 9) (by decide) i (fun j hj => hw.su (by omega))
        have hs := hw.su (p := x + i) (by omega)
        refine u8_5 hK hX hcm ⟨fun h => by omega, fun _ => ⟨fun h => ?_, fun _ => ⟨fun h => by omega, fun _ => ⟨by omega, ?_⟩⟩⟩⟩
        · rw [w32_id (by omega)] at h; omega
        · rw [Int.toNat_natCast, hc.a1 (by omega), w32_id (by omega), w1 (by omega)]
          exact ih (i + 1) (by omega)
    exact loop m 0 (by omega)
theorem g9 {set : Nat} (hK : K.1 = 923) (hX : FX M) (hcm : isO 923 cm 0 = true) (h : CC M cm c ∧ CW c ∧ set < 2147483648) (k : Q (.inl (some (vI (yardS c set)))) M K) : Wm d 9 [vR cm, vI (set : Int)] M K Q := by
  obtain ⟨hc, hw, hs⟩ := h
  obtain ⟨-, e6, -⟩ := hc.g hw
  have hn := hw.n.1
  refine u9_0 hK hX hcm ?_
  have loop : ∀ f i, i + f = nSt c → Wp d 9 4 [vR cm, vI (set : Int), vI (sumF (fun p => bitI set p * c 2 p) i), vI (i : Int)] [] M K Q := by
    intro f
    induction f with
    | zero =>
      intro i hi
      have : i = nSt c := by omega
      subst this
      exact u9_4 hK hX hcm ⟨fun _ => k, fun h => by omega⟩
    | succ f ih =>
      intro i hi
      have hy : ∀ j, j < nSt c → 0 ≤ bitI set j * c 2 j ∧ bitI set j * c 2 j ≤ 6 := fun j hj => by
        have := hw.y hj
        unfold bitI; split <;> omega
      have hb := sumF_bd (b := 6) (by decide) i (fun j hj => hy j (by omega))
      have hi2 := hy i (by omega)
      refine u9_4 hK hX hcm ⟨fun h => by omega, fun _ => ⟨by omega, ?_⟩⟩
      have e : jand (jshr (set : Int) (i : Int)) 1 = bitI set i := bit_n (by omega) hs
      rw [e, Int.toNat_natCast, hc.a2 (by omega), w32_id (z := bitI set i * c 2 i) (by omega), w32_id (by omega), w1 (by omega)]
      exact ih (i + 1) (by omega)
  exact loop (nSt c) 0 (by omega)
theorem g10 {set : Nat} (hK : K.1 = 923) (hX : FX M) (hcm : isO 923 cm 0 = true) (h : CC M cm c ∧ CW c ∧ set < 2147483648) (k : Q (.inl (some (vI (deedS c set)))) M K) : Wm d 10 [vR cm, vI (set : Int)] M K Q := by
  obtain ⟨hc, hw, hs⟩ := h
  obtain ⟨-, -, e6, -⟩ := hc.g hw
  have hn := hw.n.2.2
  refine u10_0 hK hX hcm ?_
  have loop : ∀ f i, i + f = nDe c → Wp d 10 4 [vR cm, vI (set : Int), vI (sumF (fun p => bitI set p * c 4 p) i), vI (i : Int)] [] M K Q := by
    intro f
    induction f with
    | zero =>
      intro i hi
      have : i = nDe c := by omega
      subst this
      exact u10_4 hK hX hcm ⟨fun _ => k, fun h => by omega⟩
    | succ f ih =>
      intro i hi
      have hy : ∀ j, j < nDe c → 0 ≤ bitI set j * c 4 j ∧ bitI set j * c 4 j ≤ 9 := fun j hj => by
        have := hw.de hj
        unfold bitI; split <;> omega
      have hb := sumF_bd (b := 9) (by decide) i (fun j hj => hy j (by omega))
      have hi2 := hy i (by omega)
      refine u10_4 hK hX hcm ⟨fun h => by omega, fun _ => ⟨by omega, ?_⟩⟩
      have e : jand (jshr (set : Int) (i : Int)) 1 = bitI set i := bit_n (by omega) hs
      rw [e, Int.toNat_natCast, hc.a4 (by omega), w32_id (z := bitI set i * c 4 i) (by omega), w32_id (by omega), w1 (by omega)]
      exact ih (i + 1) (by omega)
  exact loop (nDe c) 0 (by omega)
theorem g11 {x y : Int} (hK : K.1 = 923) (hX : FX M) (hcm : isO 923 cm 0 = true) (h : CC M cm c ∧ CW c ∧ (0 ≤ x ∧ x ≤ 20) ∧ 0 ≤ y ∧ y ≤ 20) (k : Q (.inl (some (vI (bI ((x - y).natAbs ≤ (c 0 5).toNat))))) M K) : Wm d 11 [vR cm, vI x, vI y] M K Q := by
  obtain ⟨hc, hw, hx, hy⟩ := h
  have e10 : M cm 10 = c 0 5 := hc.1 5 (by decide)
  obtain ⟨-, -, -, -, -, h5, -⟩ := hw
  have e : jabs (w32 (x - y)) = ((x - y).natAbs : Int) := by rw [w32_id (by omega), jabs_eq (by omega)]
  refine u11_0 hK hX hcm ⟨fun h => ?_, fun h => ?_⟩
  · rw [e, e10] at h
    rwa [bI_f (by omega)] at k
  · rw [e, e10] at h
    rwa [bI_t (by omega)] at k
theorem g38 {cell : Int} (hK : K.1 = 923) (hX : FX M) (ha : isO 923 a 3 = true) (hcm : isO 923 cm 0 = true) (h : SKc M cm a c s) (k : Q (.inl (some (vI (lyOn c s cell)))) M K) : Wm d 38 [vR a, vR cm, vI cell] M K Q := by
  obtain ⟨hc, hw, hl, hlw⟩ := h
  obtain ⟨-, e6, -⟩ := hc.g hw
  have hn := hw.n.1
  have hn0 := hw.n.2.1
  refine u38_0 hK hX ha hcm ?_
  have loop : ∀ f i, i + f = nSt c → lyOn c s cell = fsR (onP c s cell) f i → Wp d 38 2 [vR a, vR cm, vI cell, vI (i : Int)] [] M K Q := by
    intro f
    induction f with
    | zero =>
      intro i hi he
      rw [he] at k
      exact u38_2 hK hX ha hcm ⟨fun _ => k, fun h => by omega⟩
    | succ f ih =>
      intro i hi he
      obtain ⟨f1, -⟩ := hl.1 i (by omega)
      have hy := hw.y (p := i) (by omega)
      obtain ⟨hr, -⟩ := hlw.1 i (by omega)
      simp only [fsR] at he
      have no : ¬ onP c s cell i = true → Wp d 38 2 [vR a, vR cm, vI cell, vI (w32 ((i : Int) + 1))] [] M K Q := by
        intro h
        rw [if_neg h] at he
        rw [w1 (by omega)]
        exact ih (i + 1) (by omega) he
      rw [onP_iff] at no
      refine u38_2 hK hX ha hcm ⟨fun h => by omega, fun _ => ⟨by omega, fun h => ?_, fun h => ⟨by omega, fun h2 => ?_, fun h2 => ⟨by omega, by omega, fun h3 => ?_, fun h3 => ?_⟩⟩⟩⟩
      · rw [Int.toNat_natCast, f1] at h; exact no (by omega)
      · rw [Int.toNat_natCast, f1] at h2; exact no (by omega)
      · rw [Int.toNat_natCast, f1, hc.a2 (by omega), w32_id (by omega)] at h3; exact no (by omega)
      · rw [Int.toNat_natCast, f1] at h h2
        rw [Int.toNat_natCast, f1, hc.a2 (by omega), w32_id (by omega)] at h3
        rw [if_pos (onP_iff.mpr ⟨h, by omega, by omega⟩)] at he
        rw [he] at k; exact k
  exact loop (nSt c) 0 (by omega) rfl
theorem g41 (hK : K.1 = 923) (hX : FX M) (ha : isO 923 a 3 = true) (hcm : isO 923 cm 0 = true) (h : SKc M cm a c s) (k : Q (.inl (some (vI (whiteS c s : Int)))) M K) : Wm d 41 [vR a, vR cm] M K Q := by
  obtain ⟨hc, hw, hl, hlw⟩ := h
  obtain ⟨-, e6, -⟩ := hc.g hw
  have hn := hw.n.1
  refine u41_0 hK hX ha hcm ?_
  have loop : ∀ f i, i + f = nSt c → Wp d 41 4 [vR a, vR cm, vI (bitsF (fun p => decide (s 1 p = 0)) i : Int), vI (i : Int)] [] M K Q := by
    intro f
    induction f with
    | zero =>
      intro i hi
      have : i = nSt c := by omega
      subst this
      exact u41_4 hK hX ha hcm ⟨fun _ => k, fun h => by omega⟩
    | succ f ih =>
      intro i hi
      obtain ⟨-, f1, -⟩ := hl.1 i (by omega)
      have hb := bitsF_lt (P := fun p => decide (s 1 p = 0)) i
      have hb2 : 2 ^ i ≤ 2 ^ 6 := Nat.pow_le_pow_right (by decide) (by omega)
      have ih' := ih (i + 1) (by omega)
      simp only [bitsF] at ih'
      refine u41_4 hK hX ha hcm ⟨fun h => by omega, fun _ => ⟨by omega, fun h => ?_, fun h => ?_⟩⟩
      · rw [Int.toNat_natCast, f1] at h
        rw [jor_0 (by omega), w1 (by omega)]
        rw [if_neg (by simpa using h), Nat.or_zero] at ih'; exact ih'
      · rw [Int.toNat_natCast, f1] at h
        have e1 : jshl 1 (i : Int) = ((1 * 2 ^ i : Nat) : Int) := jshl_n (a := 1) (by omega) (by omega)
        rw [e1, jor_n (by omega) (by omega), w1 (by omega), Nat.one_mul]
        rw [if_pos (by simpa using h)] at ih'; exact ih'
  exact loop (nSt c) 0 (by omega)
theorem g43 (hK : K.1 = 923) (hX : FX M) (ha : isO 923 a 3 = true) (hcm : isO 923 cm 0 = true) (h : SKc M cm a c s) (k : Q (.inl (some (vI (greyS c s)))) M K) : Wm d 43 [vR a, vR cm] M K Q := by
  obtain ⟨hc, hw, hl, hlw⟩ := h
  obtain ⟨-, e6, -⟩ := hc.g hw
  have hn := hw.n.1
  refine u43_0 hK hX ha hcm ?_
  have loop : ∀ f i, i + f = nSt c → Wp d 43 4 [vR a, vR cm, vI (sumF (s 1) i), vI (i : Int)] [] M K Q := by
    intro f
    induction f with
    | zero =>
      intro i hi
      have : i = nSt c := by omega
      subst this
      exact u43_4 hK hX ha hcm ⟨fun _ => k, fun h => by omega⟩
    | succ f ih =>
      intro i hi
      obtain ⟨-, f1, -⟩ := hl.1 i (by omega)
      have hb := sumF_bd (f := s 1) (b := 99) (by decide) i (fun j hj => (hlw.1 j (by omega)).2.1)
      have hi2 := (hlw.1 i (by omega)).2.1
      refine u43_4 hK hX ha hcm ⟨fun h => by omega, fun _ => ⟨by omega, ?_⟩⟩
      rw [Int.toNat_natCast, f1, w32_id (by omega), w1 (by omega)]
      exact ih (i + 1) (by omega)
  exact loop (nSt c) 0 (by omega)
end LR
/-- a row of m cells from x on, as bits -/
def rowB (x m : Nat) : Nat := (2 ^ m - 1) * 2 ^ x
theorem rowB_lt {x m b : Nat} (h : x + m ≤ b) : rowB x m < 2 ^ b := by
  unfold rowB
  have h1 : 2 ^ (x + m) ≤ 2 ^ b := Nat.pow_le_pow_right (by decide) h
  have h2 : (2 ^ m - 1) * 2 ^ x < 2 ^ m * 2 ^ x := Nat.mul_lt_mul_of_pos_right (by have := Nat.two_pow_pos m; omega) (Nat.two_pow_pos x)
  rw [Nat.pow_add] at h1
  rw [Nat.mul_comm (2 ^ x)] at h1
  omega
theorem rowB_tb {x m i : Nat} : (rowB x m).testBit i = (decide (x ≤ i) && decide (i < x + m)) := by
  unfold rowB
  rw [Nat.mul_comm, Nat.testBit_two_pow_mul, Nat.testBit_two_pow_sub_one]
  by_cases h : x ≤ i
  · have : (i - x < m) ↔ i < x + m := by omega
    simp [h, this]
  · simp [h]
theorem g144 {d : Nat} {M : Mem} {K : KK} {Q : RR → Mem → KK → Prop} {x m : Int} (hK : K.1 = 923) (hX : FX M) (h : (0 ≤ x ∧ 0 ≤ m) ∧ x + m ≤ 12) (k : Q (.inl (some (vI (rowB x.toNat m.toNat : Int)))) M K) : Wm d 144 [vI x, vI m] M K Q := by
  refine u144_0 hK hX ?_
  obtain ⟨x, rfl⟩ : ∃ x' : Nat, x = (x' : Int) := ⟨x.toNat, by omega⟩
  obtain ⟨m, rfl⟩ : ∃ x' : Nat, m = (x' : Int) := ⟨m.toNat, by omega⟩
  have h2 : 2 ^ m ≤ 2 ^ 12 := Nat.pow_le_pow_right (by decide) (by omega)
  have h3 := Nat.two_pow_pos m
  have hr := rowB_lt (x := x) (m := m) (b := 12) (by omega)
  have e : w32 (((2 ^ m : Nat) : Int) - 1) = ((2 ^ m - 1 : Nat) : Int) := by rw [w32_id (by omega)]; omega
  rw [jshl_1 (by omega), e, jshl_n (by omega) (by unfold rowB at hr; omega)]
  exact k
theorem g9z {d : Nat} {M : Mem} {K : KK} {Q : RR → Mem → KK → Prop} {cm z : Nat} {c : Mem} {v : Int} (hK : K.1 = 923) (hX : FX M) (hcm : isO 923 cm 0 = true) (h : v = (z : Int) ∧ CC M cm c ∧ CW c ∧ z < 2147483648) (k : Q (.inl (some (vI (yardS c z)))) M K) : Wm d 9 [vR cm, vI v] M K Q := by
  rw [h.1]; exact g9 hK hX hcm h.2 k
theorem g10z {d : Nat} {M : Mem} {K : KK} {Q : RR → Mem → KK → Prop} {cm z : Nat} {c : Mem} {v : Int} (hK : K.1 = 923) (hX : FX M) (hcm : isO 923 cm 0 = true) (h : v = (z : Int) ∧ CC M cm c ∧ CW c ∧ z < 2147483648) (k : Q (.inl (some (vI (deedS c z)))) M K) : Wm d 10 [vR cm, vI v] M K Q := by
  rw [h.1]; exact g10 hK hX hcm h.2 k
