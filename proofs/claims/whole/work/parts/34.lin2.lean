/-! rows, room, what is seen -/
def lrF (c s : Mem) : Nat → Nat
  | 0 => 0
  | k + 1 => lrF c s k ||| (if s 0 k = -1 then 0 else rowB (s 0 k).toNat (c 2 k).toNat)
/-- the cells on which something lies -/
def lainS (c s : Mem) : Nat := bitsF (fun cell => decide (lyOn c s (cell : Int) ≠ -1)) (nCe c)
def swF (c : Mem) (set : Nat) : Nat → Nat
  | 0 => 0
  | k + 1 => swF c set k ||| (if set.testBit k = true then rowB (k - (c 0 5).toNat) (min (nCe c - 1) (k + (c 0 5).toNat) + 1 - (k - (c 0 5).toNat)) else 0)
def seesP (c : Mem) (set : Nat) (cell : Nat) : Bool := (List.range (nCe c)).any (fun b => set.testBit b && decide (((b : Int) - (cell : Int)).natAbs ≤ (c 0 5).toNat))
/-- the cells that are seen from boxes on set -/
def seenS (c : Mem) (set : Nat) : Nat := bitsF (seesP c set) (nCe c)
def roomS (c s : Mem) (p : Nat) (x : Int) : Bool := decide (x + c 2 p ≤ c 0 0) && (List.range (nSt c)).all (fun o => decide (o = p) || decide (s 0 o = -1) || decide (x + c 2 p ≤ s 0 o) || decide (s 0 o + c 2 o ≤ x))
theorem roomS_iff {c s : Mem} {p : Nat} {x : Int} : roomS c s p x = true ↔ x + c 2 p ≤ c 0 0 ∧ ∀ o, o < nSt c → o = p ∨ s 0 o = -1 ∨ x + c 2 p ≤ s 0 o ∨ s 0 o + c 2 o ≤ x := by
  simp only [roomS, Bool.and_eq_true, decide_eq_true_eq, List.all_eq_true, List.mem_range, Bool.or_eq_true]
  constructor
  · rintro ⟨h1, h2⟩
    exact ⟨h1, fun o ho => by rcases h2 o ho with ((h | h) | h) | h <;> omega⟩
  · rintro ⟨h1, h2⟩
    refine ⟨h1, fun o ho => ?_⟩
    rcases h2 o ho with h | h | h | h
    · exact Or.inl (Or.inl (Or.inl h))
    · exact Or.inl (Or.inl (Or.inr h))
    · exact Or.inl (Or.inr h)
    · exact Or.inr h
def lyS (c s : Mem) : Int := sumF (fun p => if s 0 p = -1 then 0 else 1) (nSt c)
def spareS (c s : Mem) : Int := sumF (fun p => if s 0 p = -1 then 0 else 9 - s 2 p) (nSt c)
section RM
variable {c s : Mem}
theorem lyOn_ne {cell : Int} : lyOn c s cell ≠ -1 ↔ ∃ p, p < nSt c ∧ onP c s cell p = true := by
  rcases fsR_sp (P := onP c s cell) (nSt c) 0 with ⟨h1, h2⟩ | ⟨j, h1, -, h3, h4, -⟩
  · constructor
    · intro h; exact absurd h1 h
    · rintro ⟨p, hp, hh⟩; exact absurd hh (h2 p (by omega) (by omega))
  · constructor
    · intro _; exact ⟨j, by omega, h4⟩
    · intro _; unfold lyOn; rw [h1]; omega
theorem lyOn_rg {cell : Int} : lyOn c s cell = -1 ∨ ∃ p : Nat, lyOn c s cell = (p : Int) ∧ p < nSt c ∧ onP c s cell p = true := by
  rcases fsR_sp (P := onP c s cell) (nSt c) 0 with ⟨h1, h2⟩ | ⟨j, h1, -, h3, h4, -⟩
  · exact Or.inl h1
  · exact Or.inr ⟨j, h1, by omega, h4⟩
theorem lrF_tb (hl : LW c s) (hw : CW c) : ∀ k, k ≤ nSt c → ∀ i, (lrF c s k).testBit i = true ↔ ∃ p, p < k ∧ onP c s (i : Int) p = true := by
  intro k
  induction k with
  | zero => intro _ i; simp [lrF]
  | succ k ih =>
    intro hk i
    have hy := hw.y (p := k) (by omega)
    have hx := (hl.1 k (by omega)).1
    simp only [lrF]
    rw [Nat.testBit_or, Bool.or_eq_true, ih (by omega) i]
    have e : (if s 0 k = -1 then 0 else rowB (s 0 k).toNat (c 2 k).toNat).testBit i = true ↔ onP c s (i : Int) k = true := by
      rw [onP_iff]
      split
      · simp; omega
      · rw [rowB_tb]; simp; omega
    rw [e]
    constructor
    · rintro (⟨p, h1, h2⟩ | h)
      · exact ⟨p, by omega, h2⟩
      · exact ⟨k, by omega, h⟩
    · rintro ⟨p, h1, h2⟩
      by_cases h : p = k
      · subst h; exact Or.inr h2
      · exact Or.inl ⟨p, by omega, h2⟩
theorem on_lt (hl : LW c s) (hw : CW c) {i p : Nat} (hp : p < nSt c) (h : onP c s (i : Int) p = true) : i < nCe c := by
  rw [onP_iff] at h
  have := (hl.1 p hp).1
  have := hw.n.2.1
  omega
theorem lrF_eq (hl : LW c s) (hw : CW c) : lrF c s (nSt c) = lainS c s := by
  refine eq_tb (fun i => ?_)
  unfold lainS
  rw [bitsF_tb, Bool.eq_iff_iff, lrF_tb hl hw _ (Nat.le_refl _)]
  simp only [Bool.and_eq_true, decide_eq_true_eq]
  rw [lyOn_ne]
  constructor
  · rintro ⟨p, h1, h2⟩; exact ⟨on_lt hl hw h1 h2, p, h1, h2⟩
  · rintro ⟨-, h⟩; exact h
theorem lrF_lt (hl : LW c s) (hw : CW c) : ∀ k, k ≤ nSt c → lrF c s k < 2 ^ 12 := by
  intro k
  induction k with
  | zero => intro _; simp [lrF]
  | succ k ih =>
    intro hk
    have hy := hw.y (p := k) (by omega)
    have hx := (hl.1 k (by omega)).1
    have := hw.n.2.1
    simp only [lrF]
    refine Nat.or_lt_two_pow (ih (by omega)) ?_
    split
    · exact Nat.two_pow_pos _
    · exact rowB_lt (by omega)
theorem seesP_iff {set cell : Nat} : seesP c set cell = true ↔ ∃ b, b < nCe c ∧ set.testBit b = true ∧ ((b : Int) - (cell : Int)).natAbs ≤ (c 0 5).toNat := by
  simp only [seesP, List.any_eq_true, List.mem_range, Bool.and_eq_true, decide_eq_true_eq]
theorem swF_tb {set : Nat} : ∀ k, k ≤ nCe c → ∀ i, (swF c set k).testBit i = true ↔ i < nCe c ∧ ∃ b, b < k ∧ set.testBit b = true ∧ ((b : Int) - (i : Int)).natAbs ≤ (c 0 5).toNat := by
  intro k
  induction k with
  | zero => intro _ i; simp [swF]
  | succ k ih =>
    intro hk i
    simp only [swF]
    rw [Nat.testBit_or, Bool.or_eq_true, ih (by omega) i]
    have e : (if set.testBit k = true then rowB (k - (c 0 5).toNat) (min (nCe c - 1) (k + (c 0 5).toNat) + 1 - (k - (c 0 5).toNat)) else 0).testBit i = true ↔ i < nCe c ∧ set.testBit k = true ∧ ((k : Int) - (i : Int)).natAbs ≤ (c 0 5).toNat := by
      split
      · rename_i h
        rw [rowB_tb]; simp only [Bool.and_eq_true, decide_eq_true_eq, h, true_and]; omega
      · rename_i h; simp [h]
    rw [e]
    constructor
    · rintro (⟨h0, b, h1, h2⟩ | ⟨h0, h2⟩)
      · exact ⟨h0, b, by omega, h2⟩
      · exact ⟨h0, k, by omega, h2⟩
    · rintro ⟨h0, b, h1, h2⟩
      by_cases h : b = k
      · subst h; exact Or.inr ⟨h0, h2⟩
      · exact Or.inl ⟨h0, b, by omega, h2⟩
theorem swF_eq {set : Nat} : swF c set (nCe c) = seenS c set := by
  refine eq_tb (fun i => ?_)
  unfold seenS
  rw [bitsF_tb, Bool.eq_iff_iff, swF_tb _ (Nat.le_refl _)]
  simp only [Bool.and_eq_true, decide_eq_true_eq]
  rw [seesP_iff]
theorem swF_lt (hw : CW c) {set : Nat} : ∀ k, k ≤ nCe c → swF c set k < 2 ^ 12 := by
  intro k
  induction k with
  | zero => intro _; simp [swF]
  | succ k ih =>
    intro hk
    have := hw.n.2.1
    simp only [swF]
    refine Nat.or_lt_two_pow (ih (by omega)) ?_
    split
    · exact rowB_lt (by omega)
    · exact Nat.two_pow_pos _
end RM
theorem u12_0 {d : Nat} {l0 : Nat} {l1 : Int} {M : Mem} {K : KK} {Q : RR → Mem → KK → Prop} (hK : K.1 = 923) (hX : FX M) (k0 : isO 923 l0 0 = true) (h : Wp (d + 1) 12 4 [vR l0, vI l1, vI (0 : Int), vI (0 : Int), vU, vU] [] M K Q) : Wp (d + 1) 12 0 [vR l0, vI l1, vU, vU, vU, vU] [] M K Q := by
  refine r_iconst c12_0 ?_
  refine r_istore_n c12_1 (Nat.le_of_ble_eq_true rfl) ?_
  refine r_iconst c12_2 ?_
  refine r_istore_n c12_3 (Nat.le_of_ble_eq_true rfl) ?_
  exact h
theorem u12_4 {d : Nat} {l0 : Nat} {l1 : Int} {l2 : Int} {l3 : Int} {l4 : PV} {l5 : PV} {M : Mem} {K : KK} {Q : RR → Mem → KK → Prop} (hK : K.1 = 923) (hX : FX M) (k0 : isO 923 l0 0 = true) (h : ((M l0 5) ≤ l3 → Q (.inl (some (vI l2))) M K) ∧ (¬ ((M l0 5) ≤ l3) → (¬ (jand (jshr l1 l3) (1 : Int)) = (1 : Int) → Wp (d + 1) 12 4 [vR l0, vI l1, vI l2, vI (w32 (l3 + 1)), l4, l5] [] M K Q) ∧ ((jand (jshr l1 l3) (1 : Int)) = (1 : Int) → ((0 ≤ (jmax (0 : Int) (w32 (l3 - (M l0 10)))) ∧ 0 ≤ (w32 ((w32 ((jmin (w32 ((M l0 5) - (1 : Int))) (w32 (l3 + (M l0 10)))) - (jmax (0 : Int) (w32 (l3 - (M l0 10)))))) + (1 : Int)))) ∧ (jmax (0 : Int) (w32 (l3 - (M l0 10)))) + (w32 ((w32 ((jmin (w32 ((M l0 5) - (1 : Int))) (w32 (l3 + (M l0 10)))) - (jmax (0 : Int) (w32 (l3 - (M l0 10)))))) + (1 : Int))) ≤ 12) ∧ Wp (d + 1) 12 4 [vR l0, vI l1, vI (jor l2 (rowB (jmax (0 : Int) (w32 (l3 - (M l0 10)))).toNat (w32 ((w32 ((jmin (w32 ((M l0 5) - (1 : Int))) (w32 (l3 + (M l0 10)))) - (jmax (0 : Int) (w32 (l3 - (M l0 10)))))) + (1 : Int))).toNat : Int)), vI (w32 (l3 + 1)), vI (jmax (0 : Int) (w32 (l3 - (M l0 10)))), vI (jmin (w32 ((M l0 5) - (1 : Int))) (w32 (l3 + (M l0 10))))] [] M K Q))) : Wp (d + 1) 12 4 [vR l0, vI l1, vI l2, vI l3, l4, l5] [] M K Q := by
  refine r_iload_n c12_4 rfl ?_
  refine r_aload_n c12_5 rfl ?_
  refine r_getIe c12_6 (oK hK k0) rfl ?_
  refine r_icmpP (P := (M l0 5) ≤ l3) c12_9 rfl (fun hc1 => ?_) (fun hc1 => ?_)
  · replace h := h.1 hc1
    refine r_iload_n c12_71 rfl ?_
    exact r_iret c12_72 (Or.inl rfl) h
  · replace h := h.2 hc1
    refine r_iload_n c12_12 rfl ?_
    refine r_iload_n c12_13 rfl ?_
    refine r_ishr c12_14 ?_
    refine r_iconst c12_15 ?_
    refine r_iand c12_16 ?_
    refine r_iconst c12_17 ?_
    refine r_icmpP (P := ¬ (jand (jshr l1 l3) (1 : Int)) = (1 : Int)) c12_18 rfl (fun hc2 => ?_) (fun hc2 => ?_)
    · replace h := h.1 hc2
      refine r_iinc c12_65 rfl ?_
      refine r_goto c12_68 ?_
      exact h
    · have hc3 := Classical.not_not.mp hc2
      replace h := h.2 hc3
      refine r_iconst c12_21 ?_
      refine r_iload_n c12_22 rfl ?_
      refine r_aload_n c12_23 rfl ?_
      refine r_getIe c12_24 (oK hK k0) rfl ?_
      refine r_isub c12_27 ?_
      refine r_max c12_28 (Nat.le_of_ble_eq_true rfl) ?_
      refine r_istore c12_31 (Nat.le_of_ble_eq_true rfl) ?_
      refine r_aload_n c12_33 rfl ?_
      refine r_getIe c12_34 (oK hK k0) rfl ?_
      refine r_iconst c12_37 ?_
      refine r_isub c12_38 ?_
      refine r_iload_n c12_39 rfl ?_
      refine r_aload_n c12_40 rfl ?_
      refine r_getIe c12_41 (oK hK k0) rfl ?_
      refine r_iadd c12_44 ?_
      refine r_min c12_45 (Nat.le_of_ble_eq_true rfl) ?_
      refine r_istore c12_48 (Nat.le_of_ble_eq_true rfl) ?_
      refine r_iload_n c12_50 rfl ?_
      refine r_iload c12_51 rfl ?_
      refine r_iload c12_53 rfl ?_
      refine r_iload c12_55 rfl ?_
      refine r_isub c12_57 ?_
      refine r_iconst c12_58 ?_
      refine r_iadd c12_59 ?_
      obtain ⟨p4, h⟩ := h
      refine r_call c12_60 rfl rfl (Nat.le_of_ble_eq_true rfl) (okc_s rfl rfl rfl) (g144 hK hX p4 (Bk_v ?_))
      refine r_ior c12_63 ?_
      refine r_istore_n c12_64 (Nat.le_of_ble_eq_true rfl) ?_
      refine r_iinc c12_65 rfl ?_
      refine r_goto c12_68 ?_
      exact h
theorem u37_0 {d : Nat} {l0 : Nat} {l1 : Nat} {l2 : Int} {l3 : Int} {M : Mem} {K : KK} {Q : RR → Mem → KK → Prop} (hK : K.1 = 923) (hX : FX M) (k0 : isO 923 l0 3 = true) (k1 : isO 923 l1 0 = true) (h : (0 ≤ l2 ∧ l2 < (6 : Int)) ∧ ((w32 (l3 + (M (l1 + 2) (Int.toNat l2)))) ≤ (M l1 5) → Wp d 37 24 [vR l0, vR l1, vI l2, vI l3, vI (w32 (l3 + (M (l1 + 2) (Int.toNat l2)))), vI (0 : Int), vU] [] M K Q) ∧ (¬ ((w32 (l3 + (M (l1 + 2) (Int.toNat l2)))) ≤ (M l1 5)) → Q (.inl (some (vI (0 : Int)))) M K)) : Wp d 37 0 [vR l0, vR l1, vI l2, vI l3, vU, vU, vU] [] M K Q := by
  refine r_iload_n c37_0 rfl ?_
  refine r_aload_n c37_1 rfl ?_
  refine r_getR c37_2 (oK hK k1) (fx0_1 hX k1) (by omega) ?_
  refine r_iload_n c37_5 rfl ?_
  obtain ⟨s1, h⟩ := h
  refine r_iae c37_6 (oK hK (q0_1 k1)) (bd (z0_1 k1) s1) rfl ?_
  refine r_iadd c37_7 ?_
  refine r_istore c37_8 (Nat.le_of_ble_eq_true rfl) ?_
  refine r_iload c37_10 rfl ?_
  refine r_aload_n c37_12 rfl ?_
  refine r_getIe c37_13 (oK hK k1) rfl ?_
  refine r_icmpP (P := (w32 (l3 + (M (l1 + 2) (Int.toNat l2)))) ≤ (M l1 5)) c37_16 rfl (fun hc2 => ?_) (fun hc2 => ?_)
  · replace h := h.1 hc2
    refine r_iconst c37_21 ?_
    refine r_istore c37_22 (Nat.le_of_ble_eq_true rfl) ?_
    exact h
  · replace h := h.2 hc2
    refine r_iconst c37_19 ?_
    exact r_iret c37_20 (by decide) h
theorem u37_24 {d : Nat} {l0 : Nat} {l1 : Nat} {l2 : Int} {l3 : Int} {l4 : Int} {l5 : Int} {l6 : PV} {M : Mem} {K : KK} {Q : RR → Mem → KK → Prop} (hK : K.1 = 923) (hX : FX M) (k0 : isO 923 l0 3 = true) (k1 : isO 923 l1 0 = true) (h : ((M l1 6) ≤ l5 → Q (.inl (some (vI (1 : Int)))) M K) ∧ (¬ ((M l1 6) ≤ l5) → (0 ≤ l5 ∧ l5 < (6 : Int)) ∧ ((M (l0 + 2) (Int.toNat l5)) = (-1 : Int) → (l5 = l2 → Wp d 37 24 [vR l0, vR l1, vI l2, vI l3, vI l4, vI (w32 (l5 + 1)), vI (1 : Int)] [] M K Q) ∧ (¬ (l5 = l2) → Wp d 37 24 [vR l0, vR l1, vI l2, vI l3, vI l4, vI (w32 (l5 + 1)), vI (1 : Int)] [] M K Q)) ∧ (¬ ((M (l0 + 2) (Int.toNat l5)) = (-1 : Int)) → (0 ≤ l5 ∧ l5 < (6 : Int)) ∧ (l4 ≤ (M (l0 + 2) (Int.toNat l5)) → (l5 = l2 → Wp d 37 24 [vR l0, vR l1, vI l2, vI l3, vI l4, vI (w32 (l5 + 1)), vI (1 : Int)] [] M K Q) ∧ (¬ (l5 = l2) → Wp d 37 24 [vR l0, vR l1, vI l2, vI l3, vI l4, vI (w32 (l5 + 1)), vI (1 : Int)] [] M K Q)) ∧ (¬ (l4 ≤ (M (l0 + 2) (Int.toNat l5))) → (0 ≤ l5 ∧ l5 < (6 : Int)) ∧ (0 ≤ l5 ∧ l5 < (6 : Int)) ∧ (l3 < (w32 ((M (l0 + 2) (Int.toNat l5)) + (M (l1 + 2) (Int.toNat l5)))) → (l5 = l2 → Wp d 37 24 [vR l0, vR l1, vI l2, vI l3, vI l4, vI (w32 (l5 + 1)), vI (0 : Int)] [] M K Q) ∧ (¬ (l5 = l2) → Q (.inl (some (vI (0 : Int)))) M K)) ∧ (¬ (l3 < (w32 ((M (l0 + 2) (Int.toNat l5)) + (M (l1 + 2) (Int.toNat l5))))) → (l5 = l2 → Wp d 37 24 [vR l0, vR l1, vI l2, vI l3, vI l4, vI (w32 (l5 + 1)), vI (1 : Int)] [] M K Q) ∧ (¬ (l5 = l2) → Wp d 37 24 [vR l0, vR l1, vI l2, vI l3, vI l4, vI (w32 (l5 + 1)), vI (1 : Int)] [] M K Q)))))) : Wp d 37 24 [vR l0, vR l1, vI l2, vI l3, vI l4, vI l5, l6] [] M K Q := by
  refine r_iload c37_24 rfl ?_
  refine r_aload_n c37_26 rfl ?_
  refine r_getIe c37_27 (oK hK k1) rfl ?_
  refine r_icmpP (P := (M l1 6) ≤ l5) c37_30 rfl (fun hc1 => ?_) (fun hc1 => ?_)
  · replace h := h.1 hc1
    refine r_iconst c37_101 ?_
    exact r_iret c37_102 (by decide) h
  · replace h := h.2 hc1
    refine r_aload_n c37_33 rfl ?_
    refine r_getR c37_34 (oK hK k0) (fx3_1 hX k0) (by omega) ?_
    refine r_iload c37_37 rfl ?_
    obtain ⟨s2, h⟩ := h
    refine r_iae c37_39 (oK hK (q3_1 k0)) (bd (z3_1 k0) s2) rfl ?_
    refine r_iconst c37_40 ?_
    refine r_icmpP (P := (M (l0 + 2) (Int.toNat l5)) = (-1 : Int)) c37_41 rfl (fun hc3 => ?_) (fun hc3 => ?_)
    · replace h := h.1 hc3
      refine r_iconst c37_75 ?_
      refine r_goto c37_76 ?_
      refine r_istore c37_80 (Nat.le_of_ble_eq_true rfl) ?_
      refine r_iload c37_82 rfl ?_
      refine r_iload_n c37_84 rfl ?_
      refine r_icmpP (P := l5 = l2) c37_85 rfl (fun hc4 => ?_) (fun hc4 => ?_)
      · replace h := h.1 hc4
        refine r_iinc c37_95 rfl ?_
        refine r_goto c37_98 ?_
        exact h
      · replace h := h.2 hc4
        refine r_iload c37_88 rfl ?_
        refine r_ifP (P := ¬ (1 : Int) = (0 : Int)) c37_90 rfl (fun hc => ?_) (fun hc => absurd (by decide) hc)
        refine r_iinc c37_95 rfl ?_
        refine r_goto c37_98 ?_
        exact h
    · replace h := h.2 hc3
      refine r_aload_n c37_44 rfl ?_
      refine r_getR c37_45 (oK hK k0) (fx3_1 hX k0) (by omega) ?_
      refine r_iload c37_48 rfl ?_
      obtain ⟨s5, h⟩ := h
      refine r_iae c37_50 (oK hK (q3_1 k0)) (bd (z3_1 k0) s5) rfl ?_
      refine r_iload c37_51 rfl ?_
      refine r_icmpP (P := l4 ≤ (M (l0 + 2) (Int.toNat l5))) c37_53 rfl (fun hc6 => ?_) (fun hc6 => ?_)
      · replace h := h.1 hc6
        refine r_iconst c37_75 ?_
        refine r_goto c37_76 ?_
        refine r_istore c37_80 (Nat.le_of_ble_eq_true rfl) ?_
        refine r_iload c37_82 rfl ?_
        refine r_iload_n c37_84 rfl ?_
        refine r_icmpP (P := l5 = l2) c37_85 rfl (fun hc7 => ?_) (fun hc7 => ?_)
        · replace h := h.1 hc7
          refine r_iinc c37_95 rfl ?_
          refine r_goto c37_98 ?_
          exact h
        · replace h := h.2 hc7
          refine r_iload c37_88 rfl ?_
          refine r_ifP (P := ¬ (1 : Int) = (0 : Int)) c37_90 rfl (fun hc => ?_) (fun hc => absurd (by decide) hc)
          refine r_iinc c37_95 rfl ?_
          refine r_goto c37_98 ?_
          exact h
      · replace h := h.2 hc6
        refine r_aload_n c37_56 rfl ?_
        refine r_getR c37_57 (oK hK k0) (fx3_1 hX k0) (by omega) ?_
        refine r_iload c37_60 rfl ?_
        obtain ⟨s8, h⟩ := h
        refine r_iae c37_62 (oK hK (q3_1 k0)) (bd (z3_1 k0) s8) rfl ?_
        refine r_aload_n c37_63 rfl ?_
        refine r_getR c37_64 (oK hK k1) (fx0_1 hX k1) (by omega) ?_
        refine r_iload c37_67 rfl ?_
        obtain ⟨s9, h⟩ := h
        refine r_iae c37_69 (oK hK (q0_1 k1)) (bd (z0_1 k1) s9) rfl ?_
        refine r_iadd c37_70 ?_
        refine r_iload_n c37_71 rfl ?_
        refine r_icmpP (P := l3 < (w32 ((M (l0 + 2) (Int.toNat l5)) + (M (l1 + 2) (Int.toNat l5))))) c37_72 rfl (fun hc10 => ?_) (fun hc10 => ?_)
        · replace h := h.1 hc10
          refine r_iconst c37_79 ?_
          refine r_istore c37_80 (Nat.le_of_ble_eq_true rfl) ?_
          refine r_iload c37_82 rfl ?_
          refine r_iload_n c37_84 rfl ?_
          refine r_icmpP (P := l5 = l2) c37_85 rfl (fun hc11 => ?_) (fun hc11 => ?_)
          · replace h := h.1 hc11
            refine r_iinc c37_95 rfl ?_
            refine r_goto c37_98 ?_
            exact h
          · replace h := h.2 hc11
            refine r_iload c37_88 rfl ?_
            refine r_ifP (P := ¬ (0 : Int) = (0 : Int)) c37_90 rfl (fun hc => absurd hc (by decide)) (fun hc => ?_)
            refine r_iconst c37_93 ?_
            exact r_iret c37_94 (by decide) h
        · replace h := h.2 hc10
          refine r_iconst c37_75 ?_
          refine r_goto c37_76 ?_
          refine r_istore c37_80 (Nat.le_of_ble_eq_true rfl) ?_
          refine r_iload c37_82 rfl ?_
          refine r_iload_n c37_84 rfl ?_
          refine r_icmpP (P := l5 = l2) c37_85 rfl (fun hc12 => ?_) (fun hc12 => ?_)
          · replace h := h.1 hc12
            refine r_iinc c37_95 rfl ?_
            refine r_goto c37_98 ?_
            exact h
          · replace h := h.2 hc12
            refine r_iload c37_88 rfl ?_
            refine r_ifP (P := ¬ (1 : Int) = (0 : Int)) c37_90 rfl (fun hc => ?_) (fun hc => absurd (by decide) hc)
            refine r_iinc c37_95 rfl ?_
            refine r_goto c37_98 ?_
            exact h
theorem u39_0 {d : Nat} {l0 : Nat} {l1 : Nat} {M : Mem} {K : KK} {Q : RR → Mem → KK → Prop} (hK : K.1 = 923) (hX : FX M) (k0 : isO 923 l0 3 = true) (k1 : isO 923 l1 0 = true) (h : Wp (d + 1) 39 4 [vR l0, vR l1, vI (0 : Int), vI (0 : Int)] [] M K Q) : Wp (d + 1) 39 0 [vR l0, vR l1, vU, vU] [] M K Q := by
  refine r_iconst c39_0 ?_
  refine r_istore_n c39_1 (Nat.le_of_ble_eq_true rfl) ?_
  refine r_iconst c39_2 ?_
  refine r_istore_n c39_3 (Nat.le_of_ble_eq_true rfl) ?_
  exact h
theorem u39_4 {d : Nat} {l0 : Nat} {l1 : Nat} {l2 : Int} {l3 : Int} {M : Mem} {K : KK} {Q : RR → Mem → KK → Prop} (hK : K.1 = 923) (hX : FX M) (k0 : isO 923 l0 3 = true) (k1 : isO 923 l1 0 = true) (h : ((M l1 6) ≤ l3 → Q (.inl (some (vI l2))) M K) ∧ (¬ ((M l1 6) ≤ l3) → (0 ≤ l3 ∧ l3 < (6 : Int)) ∧ (¬ (M (l0 + 2) (Int.toNat l3)) = (-1 : Int) → (0 ≤ l3 ∧ l3 < (6 : Int)) ∧ (0 ≤ l3 ∧ l3 < (6 : Int)) ∧ ((0 ≤ (M (l0 + 2) (Int.toNat l3)) ∧ 0 ≤ (M (l1 + 2) (Int.toNat l3))) ∧ (M (l0 + 2) (Int.toNat l3)) + (M (l1 + 2) (Int.toNat l3)) ≤ 12) ∧ Wp (d + 1) 39 4 [vR l0, vR l1, vI (jor l2 (rowB (M (l0 + 2) (Int.toNat l3)).toNat (M (l1 + 2) (Int.toNat l3)).toNat : Int)), vI (w32 (l3 + 1))] [] M K Q) ∧ ((M (l0 + 2) (Int.toNat l3)) = (-1 : Int) → Wp (d + 1) 39 4 [vR l0, vR l1, vI (jor l2 (0 : Int)), vI (w32 (l3 + 1))] [] M K Q))) : Wp (d + 1) 39 4 [vR l0, vR l1, vI l2, vI l3] [] M K Q := by
  refine r_iload_n c39_4 rfl ?_
  refine r_aload_n c39_5 rfl ?_
  refine r_getIe c39_6 (oK hK k1) rfl ?_
  refine r_icmpP (P := (M l1 6) ≤ l3) c39_9 rfl (fun hc1 => ?_) (fun hc1 => ?_)
  · replace h := h.1 hc1
    refine r_iload_n c39_50 rfl ?_
    exact r_iret c39_51 (Or.inl rfl) h
  · replace h := h.2 hc1
    refine r_iload_n c39_12 rfl ?_
    refine r_aload_n c39_13 rfl ?_
    refine r_getR c39_14 (oK hK k0) (fx3_1 hX k0) (by omega) ?_
    refine r_iload_n c39_17 rfl ?_
    obtain ⟨s2, h⟩ := h
    refine r_iae c39_18 (oK hK (q3_1 k0)) (bd (z3_1 k0) s2) rfl ?_
    refine r_iconst c39_19 ?_
    refine r_icmpP (P := ¬ (M (l0 + 2) (Int.toNat l3)) = (-1 : Int)) c39_20 rfl (fun hc3 => ?_) (fun hc3 => ?_)
    · replace h := h.1 hc3
      refine r_aload_n c39_27 rfl ?_
      refine r_getR c39_28 (oK hK k0) (fx3_1 hX k0) (by omega) ?_
      refine r_iload_n c39_31 rfl ?_
      obtain ⟨s5, h⟩ := h
      refine r_iae c39_32 (oK hK (q3_1 k0)) (bd (z3_1 k0) s5) rfl ?_
      refine r_aload_n c39_33 rfl ?_
      refine r_getR c39_34 (oK hK k1) (fx0_1 hX k1) (by omega) ?_
      refine r_iload_n c39_37 rfl ?_
      obtain ⟨s6, h⟩ := h
      refine r_iae c39_38 (oK hK (q0_1 k1)) (bd (z0_1 k1) s6) rfl ?_
      obtain ⟨p7, h⟩ := h
      refine r_call c39_39 rfl rfl (Nat.le_of_ble_eq_true rfl) (okc_s rfl rfl rfl) (g144 hK hX p7 (Bk_v ?_))
      refine r_ior c39_42 ?_
      refine r_istore_n c39_43 (Nat.le_of_ble_eq_true rfl) ?_
      refine r_iinc c39_44 rfl ?_
      refine r_goto c39_47 ?_
      exact h
    · have hc4 := Classical.not_not.mp hc3
      replace h := h.2 hc4
      refine r_iconst c39_23 ?_
      refine r_goto c39_24 ?_
      refine r_ior c39_42 ?_
      refine r_istore_n c39_43 (Nat.le_of_ble_eq_true rfl) ?_
      refine r_iinc c39_44 rfl ?_
      refine r_goto c39_47 ?_
      exact h
theorem u40_0 {d : Nat} {l0 : Nat} {l1 : Nat} {M : Mem} {K : KK} {Q : RR → Mem → KK → Prop} (hK : K.1 = 923) (hX : FX M) (k0 : isO 923 l0 3 = true) (k1 : isO 923 l1 0 = true) (h : Wp d 40 4 [vR l0, vR l1, vI (0 : Int), vI (0 : Int)] [] M K Q) : Wp d 40 0 [vR l0, vR l1, vU, vU] [] M K Q := by
  refine r_iconst c40_0 ?_
  refine r_istore_n c40_1 (Nat.le_of_ble_eq_true rfl) ?_
  refine r_iconst c40_2 ?_
  refine r_istore_n c40_3 (Nat.le_of_ble_eq_true rfl) ?_
  exact h
theorem u40_4 {d : Nat} {l0 : Nat} {l1 : Nat} {l2 : Int} {l3 : Int} {M : Mem} {K : KK} {Q : RR → Mem → KK → Prop} (hK : K.1 = 923) (hX : FX M) (k0 : isO 923 l0 3 = true) (k1 : isO 923 l1 0 = true) (h : ((M l1 6) ≤ l3 → Q (.inl (some (vI l2))) M K) ∧ (¬ ((M l1 6) ≤ l3) → (0 ≤ l3 ∧ l3 < (6 : Int)) ∧ (¬ (M (l0 + 2) (Int.toNat l3)) = (-1 : Int) → Wp d 40 4 [vR l0, vR l1, vI (w32 (l2 + (1 : Int))), vI (w32 (l3 + 1))] [] M K Q) ∧ ((M (l0 + 2) (Int.toNat l3)) = (-1 : Int) → Wp d 40 4 [vR l0, vR l1, vI (w32 (l2 + (0 : Int))), vI (w32 (l3 + 1))] [] M K Q))) : Wp d 40 4 [vR l0, vR l1, vI l2, vI l3] [] M K Q := by
  refine r_iload_n c40_4 rfl ?_
  refine r_aload_n c40_5 rfl ?_
  refine r_getIe c40_6 (oK hK k1) rfl ?_
  refine r_icmpP (P := (M l1 6) ≤ l3) c40_9 rfl (fun hc1 => ?_) (fun hc1 => ?_)
  · replace h := h.1 hc1
    refine r_iload_n c40_36 rfl ?_
    exact r_iret c40_37 (Or.inl rfl) h
  · replace h := h.2 hc1
    refine r_iload_n c40_12 rfl ?_
    refine r_aload_n c40_13 rfl ?_
    refine r_getR c40_14 (oK hK k0) (fx3_1 hX k0) (by omega) ?_
    refine r_iload_n c40_17 rfl ?_
    obtain ⟨s2, h⟩ := h
    refine r_iae c40_18 (oK hK (q3_1 k0)) (bd (z3_1 k0) s2) rfl ?_
    refine r_iconst c40_19 ?_
    refine r_icmpP (P := ¬ (M (l0 + 2) (Int.toNat l3)) = (-1 : Int)) c40_20 rfl (fun hc3 => ?_) (fun hc3 => ?_)
    · replace h := h.1 hc3
      refine r_iconst c40_27 ?_
      refine r_iadd c40_28 ?_
      refine r_istore_n c40_29 (Nat.le_of_ble_eq_true rfl) ?_
      refine r_iinc c40_30 rfl ?_
      refine r_goto c40_33 ?_
      exact h
    · have hc4 := Classical.not_not.mp hc3
      replace h := h.2 hc4
      refine r_iconst c40_23 ?_
      refine r_goto c40_24 ?_
      refine r_iadd c40_28 ?_
      refine r_istore_n c40_29 (Nat.le_of_ble_eq_true rfl) ?_
      refine r_iinc c40_30 rfl ?_
      refine r_goto c40_33 ?_
      exact h
section RN
variable {d : Nat} {M : Mem} {K : KK} {Q : RR → Mem → KK → Prop} {cm a : Nat} {c s : Mem}
theorem g12 {v : Int} {set : Nat} (hK : K.1 = 923) (hX : FX M) (hcm : isO 923 cm 0 = true) (h : v = (set : Int) ∧ CC M cm c ∧ CW c ∧ set < 2147483648) (k : Q (.inl (some (vI (seenS c set : Int)))) M K) : Wm (d + 1) 12 [vR cm, vI v] M K Q := by
  obtain ⟨rfl, hc, hw, hs⟩ := h
  obtain ⟨e5, -, -, -, -, e10⟩ := hc.g hw
  have hn := hw.n.2.1
  have hw' := hw
  obtain ⟨-, -, -, -, -, h5, -⟩ := hw'
  rw [← swF_eq] at k
  refine u12_0 hK hX hcm ?_
  have loop : ∀ f i, i + f = nCe c → ∀ l4 l5 : PV, Wp (d + 1) 12 4 [vR cm, vI (set : Int), vI (swF c set i : Int), vI (i : Int), l4, l5] [] M K Q := by
    intro f
    induction f with
    | zero =>
      intro i hi l4 l5
      have : i = nCe c := by omega
      subst this
      exact u12_4 hK hX hcm ⟨fun _ => k, fun h => by omega⟩
    | succ f ih =>
      intro i hi l4 l5
      have hb := swF_lt hw (set := set) i (by omega)
      have e : jand (jshr (set : Int) (i : Int)) 1 = if set.testBit i = true then 1 else 0 := bit_n (by omega) hs
      have ea : jmax 0 (w32 ((i : Int) - M cm 10)) = ((i - (c 0 5).toNat : Nat) : Int) := by rw [e10, w32_id (by omega), jmax_eq]; omega
      have eb : jmin (w32 (M cm 5 - 1)) (w32 ((i : Int) + M cm 10)) = ((min (nCe c - 1) (i + (c 0 5).toNat) : Nat) : Int) := by rw [e10, e5, w32_id (by omega), w32_id (by omega), jmin_eq]; omega
      have ec : w32 (w32 (((min (nCe c - 1) (i + (c 0 5).toNat) : Nat) : Int) - ((i - (c 0 5).toNat : Nat) : Int)) + 1) = ((min (nCe c - 1) (i + (c 0 5).toNat) + 1 - (i - (c 0 5).toNat) : Nat) : Int) := by
        rw [w32_id (z := ((min (nCe c - 1) (i + (c 0 5).toNat) : Nat) : Int) - ((i - (c 0 5).toNat : Nat) : Int)) (by omega), w32_id (by omega)]; omega
      have ih' := ih (i + 1) (by omega)
      simp only [swF] at ih'
      refine u12_4 hK hX hcm ⟨fun h => by omega, fun _ => ⟨fun h => ?_, fun h => ?_⟩⟩
      · rw [e] at h
        rw [w1 (by omega)]
        rw [if_neg (by intro hh; rw [if_pos hh] at h; exact h rfl), Nat.or_zero] at ih'
        exact ih' _ _
      · rw [e] at h
        have hh : set.testBit i = true := by
          by_cases hh : set.testBit i = true
          · exact hh
          · rw [if_neg hh] at h; exact absurd h (by decide)
        rw [if_pos hh] at ih'
        rw [ea, eb, ec, w1 (by omega)]
        have hr := rowB_lt (x := i - (c 0 5).toNat) (m := min (nCe c - 1) (i + (c 0 5).toNat) + 1 - (i - (c 0 5).toNat)) (b := 12) (by omega)
        refine ⟨by omega, ?_⟩
        simp only [Int.toNat_natCast]
        rw [jor_n (by omega) (by omega)]
        exact ih' _ _
  exact loop (nCe c) 0 (by omega) vU vU
theorem g37 {p : Nat} {x : Int} (hK : K.1 = 923) (hX : FX M) (ha : isO 923 a 3 = true) (hcm : isO 923 cm 0 = true) (h : SKc M cm a c s ∧ p < nSt c ∧ 0 ≤ x ∧ x ≤ 12) (k : Q (.inl (some (vI (bI (roomS c s p x = true))))) M K) : Wm d 37 [vR a, vR cm, vI (p : Int), vI x] M K Q := by
  obtain ⟨⟨hc, hw, hl, hlw⟩, hp, hx⟩ := h
  obtain ⟨e5, e6, -⟩ := hc.g hw
  have hn := hw.n.1
  have hn0 := hw.n.2.1
  have hy := hw.y hp
  have ey : w32 (x + M (cm + 2) (Int.toNat (p : Int))) = x + c 2 p := by rw [Int.toNat_natCast, hc.a2 (by omega), w32_id (by omega)]
  refine u37_0 hK hX ha hcm ⟨by omega, fun h => ?_, fun h => ?_⟩
  · rw [ey] at h ⊢
    have loop : ∀ f i, i + f = nSt c → (∀ o, o < i → o = p ∨ s 0 o = -1 ∨ x + c 2 p ≤ s 0 o ∨ s 0 o + c 2 o ≤ x) → ∀ l6 : PV, Wp d 37 24 [vR a, vR cm, vI (p : Int), vI x, vI (x + c 2 p), vI (i : Int), l6] [] M K Q := by
      intro f
      induction f with
      | zero =>
        intro i hi hq l6
        have : i = nSt c := by omega
        subst this
        refine u37_24 hK hX ha hcm ⟨fun _ => ?_, fun h => by omega⟩
        rwa [bI_t (roomS_iff.mpr ⟨by omega, hq⟩)] at k
      | succ f ih =>
        intro i hi hq l6
        obtain ⟨f1, -⟩ := hl.1 i (by omega)
        have hyi := hw.y (p := i) (by omega)
        have hxi := (hlw.1 i (by omega)).1
        have go : (i = p ∨ s 0 i = -1 ∨ x + c 2 p ≤ s 0 i ∨ s 0 i + c 2 i ≤ x) → ∀ l6 : PV, Wp d 37 24 [vR a, vR cm, vI (p : Int), vI x, vI (x + c 2 p), vI (w32 ((i : Int) + 1)), l6] [] M K Q := by
          intro h l6
          rw [w1 (by omega)]
          refine ih (i + 1) (by omega) (fun o ho => ?_) l6
          by_cases hoi : o = i
          · subst hoi; exact h
          · exact hq o (by omega)
        have e1 : M (a + 2) (Int.toNat (i : Int)) = s 0 i := by rw [Int.toNat_natCast]; exact f1
        have e2 : w32 (M (a + 2) (Int.toNat (i : Int)) + M (cm + 2) (Int.toNat (i : Int))) = s 0 i + c 2 i := by
          rw [e1, Int.toNat_natCast, hc.a2 (by omega), w32_id (by omega)]
        refine u37_24 hK hX ha hcm ⟨fun h => by omega, fun _ => ⟨by omega, fun h1 => ⟨fun _ => go (by omega) _, fun _ => go (by omega) _⟩, fun h1 => ⟨by omega, fun h2 => ⟨fun _ => go (by omega) _, fun _ => go (by omega) _⟩, fun h2 => ⟨by omega, by omega, fun h3 => ⟨fun h4 => go (by omega) _, fun h4 => ?_⟩, fun h3 => ⟨fun _ => go (by omega) _, fun _ => go (by omega) _⟩⟩⟩⟩⟩
        rw [bI_f] at k
        · exact k
        · rw [roomS_iff]
          rintro ⟨-, hh⟩
          have := hh i (by omega)
          omega
    exact loop (nSt c) 0 (by omega) (fun o ho => by omega) vU
  · rw [ey] at h
    rwa [bI_f (by rw [roomS_iff]; rintro ⟨hh, -⟩; omega)] at k
theorem g39 (hK : K.1 = 923) (hX : FX M) (ha : isO 923 a 3 = true) (hcm : isO 923 cm 0 = true) (h : SKc M cm a c s) (k : Q (.inl (some (vI (lainS c s : Int)))) M K) : Wm (d + 1) 39 [vR a, vR cm] M K Q := by
  obtain ⟨hc, hw, hl, hlw⟩ := h
  obtain ⟨e5, e6, -⟩ := hc.g hw
  have hn := hw.n.1
  have hn0 := hw.n.2.1
  rw [← lrF_eq hlw hw] at k
  refine u39_0 hK hX ha hcm ?_
  have loop : ∀ f i, i + f = nSt c → Wp (d + 1) 39 4 [vR a, vR cm, vI (lrF c s i : Int), vI (i : Int)] [] M K Q := by
    intro f
    induction f with
    | zero =>
      intro i hi
      have : i = nSt c := by omega
      subst this
      exact u39_4 hK hX ha hcm ⟨fun _ => k, fun h => by omega⟩
    | succ f ih =>
      intro i hi
      obtain ⟨f1, -⟩ := hl.1 i (by omega)
      have hyi := hw.y (p := i) (by omega)
      have hxi := (hlw.1 i (by omega)).1
      have hb := lrF_lt hlw hw i (by omega)
      have ih' := ih (i + 1) (by omega)
      simp only [lrF] at ih'
      have e1 : M (a + 2) (Int.toNat (i : Int)) = s 0 i := by rw [Int.toNat_natCast]; exact f1
      have e2 : M (cm + 2) (Int.toNat (i : Int)) = c 2 i := by rw [Int.toNat_natCast, hc.a2 (by omega)]
      refine u39_4 hK hX ha hcm ⟨fun h => by omega, fun _ => ⟨by omega, fun h => ⟨by omega, by omega, by omega, ?_⟩, fun h => ?_⟩⟩
      · rw [e1] at h
        rw [if_neg h] at ih'
        rw [e1, e2, w1 (by omega), jor_n (by omega) (by have := rowB_lt (x := (s 0 i).toNat) (m := (c 2 i).toNat) (b := 12) (by omega); omega)]
        exact ih'
      · rw [e1] at h
        rw [if_pos h, Nat.or_zero] at ih'
        rw [jor_0 (by omega), w1 (by omega)]
        exact ih'
  exact loop (nSt c) 0 (by omega)
theorem g40 (hK : K.1 = 923) (hX : FX M) (ha : isO 923 a 3 = true) (hcm : isO 923 cm 0 = true) (h : SKc M cm a c s) (k : Q (.inl (some (vI (lyS c s)))) M K) : Wm d 40 [vR a, vR cm] M K Q := by
  obtain ⟨hc, hw, hl, hlw⟩ := h
  obtain ⟨e5, e6, -⟩ := hc.g hw
  have hn := hw.n.1
  refine u40_0 hK hX ha hcm ?_
  have loop : ∀ f i, i + f = nSt c → Wp d 40 4 [vR a, vR cm, vI (sumF (fun p => if s 0 p = -1 then 0 else 1) i), vI (i : Int)] [] M K Q := by
    intro f
    induction f with
    | zero =>
      intro i hi
      have : i = nSt c := by omega
      subst this
      exact u40_4 hK hX ha hcm ⟨fun _ => k, fun h => by omega⟩
    | succ f ih =>
      intro i hi
      obtain ⟨f1, -⟩ := hl.1 i (by omega)
      have hb := sumF_bd (f := fun p => if s 0 p = -1 then 0 else 1) (b := 1) (by decide) i (fun j hj => by split <;> omega)
      have ih' := ih (i + 1) (by omega)
      simp only [sumF] at ih'
      have e1 : M (a + 2) (Int.toNat (i : Int)) = s 0 i := by rw [Int.toNat_natCast]; exact f1
      refine u40_4 hK hX ha hcm ⟨fun h => by omega, fun _ => ⟨by omega, fun h => ?_, fun h => ?_⟩⟩
      · rw [e1] at h
        rw [if_neg h] at ih'
        rw [w32_id (by omega), w1 (by omega)]; exact ih'
      · rw [e1] at h
        rw [if_pos h] at ih'
        rw [w32_id (by omega), w1 (by omega)]; exact ih'
  exact loop (nSt c) 0 (by omega)
end RN
theorem g37z {d : Nat} {M : Mem} {K : KK} {Q : RR → Mem → KK → Prop} {cm a p : Nat} {c s : Mem} {v x : Int} (hK : K.1 = 923) (hX : FX M) (ha : isO 923 a 3 = true) (hcm : isO 923 cm 0 = true) (h : v = (p : Int) ∧ SKc M cm a c s ∧ p < nSt c ∧ 0 ≤ x ∧ x ≤ 12) (k : Q (.inl (some (vI (bI (roomS c s p x = true))))) M K) : Wm d 37 [vR a, vR cm, vI v, vI x] M K Q := by
  rw [h.1]; exact g37 hK hX ha hcm h.2 k
theorem u42_0 {d : Nat} {l0 : Nat} {l1 : Nat} {M : Mem} {K : KK} {Q : RR → Mem → KK → Prop} (hK : K.1 = 923) (hX : FX M) (k0 : isO 923 l0 3 = true) (k1 : isO 923 l1 0 = true) (h : ∃ c1 : Mem, ∃ s2 : Mem, SKc M l1 l0 c1 s2 ∧ ∃ c4 : Mem, ∃ z5 : Nat, ((whiteS c1 s2 : Int) = (z5 : Int) ∧ CC M l1 c4 ∧ CW c4 ∧ z5 < 2147483648) ∧ Q (.inl (some (vI (yardS c4 z5)))) M K) : Wp (d + 1) 42 0 [vR l0, vR l1] [] M K Q := by
  refine r_aload_n c42_0 rfl ?_
  refine r_aload_n c42_1 rfl ?_
  refine r_aload_n c42_2 rfl ?_
  obtain ⟨c1, h⟩ := h
  obtain ⟨s2, h⟩ := h
  obtain ⟨p3, h⟩ := h
  refine r_call c42_3 rfl rfl (Nat.le_of_ble_eq_true rfl) (okc_r rfl rfl (oK hK k0)) (g41 hK hX k0 k1 p3 (Bk_v ?_))
  obtain ⟨c4, h⟩ := h
  obtain ⟨z5, h⟩ := h
  obtain ⟨p6, h⟩ := h
  refine r_call c42_6 rfl rfl (Nat.le_of_ble_eq_true rfl) (okc_r rfl rfl (oK hK k1)) (g9z hK hX k1 p6 (Bk_v ?_))
  exact r_iret c42_9 (Or.inl rfl) h
theorem g42 {d : Nat} {M : Mem} {K : KK} {Q : RR → Mem → KK → Prop} {cm a : Nat} {c s : Mem} (hK : K.1 = 923) (hX : FX M) (ha : isO 923 a 3 = true) (hcm : isO 923 cm 0 = true) (h : SKc M cm a c s) (k : Q (.inl (some (vI (yardS c (whiteS c s))))) M K) : Wm (d + 1) 42 [vR a, vR cm] M K Q := by
  refine u42_0 hK hX ha hcm ⟨c, s, h, c, whiteS c s, ⟨rfl, h.1, h.2.1, ?_⟩, k⟩
  have h1 := bitsF_lt (P := fun p => decide (s 1 p = 0)) (nSt c)
  have h2 : 2 ^ nSt c ≤ 2 ^ 6 := Nat.pow_le_pow_right (by decide) h.2.1.n.1.2
  unfold whiteS; omega
