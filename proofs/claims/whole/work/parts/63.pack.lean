theorem u289_0 {d : Nat} {l0 : Int} {M : Mem} {K : KK} {Q : RR → Mem → KK → Prop} (hK : K.1 = 923) (hX : FX M)  (h : Q (.inl (some (vI (jand (w32 ((w32 ((jand (w32 ((w32 ((jand (w32 (l0 - (jand (jushr l0 (1 : Int)) (1431655765 : Int)))) (858993459 : Int)) + (jand (jushr (w32 (l0 - (jand (jushr l0 (1 : Int)) (1431655765 : Int)))) (2 : Int)) (858993459 : Int)))) + (jushr (w32 ((jand (w32 (l0 - (jand (jushr l0 (1 : Int)) (1431655765 : Int)))) (858993459 : Int)) + (jand (jushr (w32 (l0 - (jand (jushr l0 (1 : Int)) (1431655765 : Int)))) (2 : Int)) (858993459 : Int)))) (4 : Int)))) (252645135 : Int)) + (jushr (jand (w32 ((w32 ((jand (w32 (l0 - (jand (jushr l0 (1 : Int)) (1431655765 : Int)))) (858993459 : Int)) + (jand (jushr (w32 (l0 - (jand (jushr l0 (1 : Int)) (1431655765 : Int)))) (2 : Int)) (858993459 : Int)))) + (jushr (w32 ((jand (w32 (l0 - (jand (jushr l0 (1 : Int)) (1431655765 : Int)))) (858993459 : Int)) + (jand (jushr (w32 (l0 - (jand (jushr l0 (1 : Int)) (1431655765 : Int)))) (2 : Int)) (858993459 : Int)))) (4 : Int)))) (252645135 : Int)) (8 : Int)))) + (jushr (w32 ((jand (w32 ((w32 ((jand (w32 (l0 - (jand (jushr l0 (1 : Int)) (1431655765 : Int)))) (858993459 : Int)) + (jand (jushr (w32 (l0 - (jand (jushr l0 (1 : Int)) (1431655765 : Int)))) (2 : Int)) (858993459 : Int)))) + (jushr (w32 ((jand (w32 (l0 - (jand (jushr l0 (1 : Int)) (1431655765 : Int)))) (858993459 : Int)) + (jand (jushr (w32 (l0 - (jand (jushr l0 (1 : Int)) (1431655765 : Int)))) (2 : Int)) (858993459 : Int)))) (4 : Int)))) (252645135 : Int)) + (jushr (jand (w32 ((w32 ((jand (w32 (l0 - (jand (jushr l0 (1 : Int)) (1431655765 : Int)))) (858993459 : Int)) + (jand (jushr (w32 (l0 - (jand (jushr l0 (1 : Int)) (1431655765 : Int)))) (2 : Int)) (858993459 : Int)))) + (jushr (w32 ((jand (w32 (l0 - (jand (jushr l0 (1 : Int)) (1431655765 : Int)))) (858993459 : Int)) + (jand (jushr (w32 (l0 - (jand (jushr l0 (1 : Int)) (1431655765 : Int)))) (2 : Int)) (858993459 : Int)))) (4 : Int)))) (252645135 : Int)) (8 : Int)))) (16 : Int)))) (63 : Int))))) M K) : Wp d 289 0 [vI l0] [] M K Q := by
  refine r_iload_n c289_0 rfl ?_
  refine r_iload_n c289_1 rfl ?_
  refine r_iconst c289_2 ?_
  refine r_iushr c289_3 ?_
  refine r_ldcw c289_4 ?_
  refine r_iand c289_7 ?_
  refine r_isub c289_8 ?_
  refine r_istore_n c289_9 (Nat.le_of_ble_eq_true rfl) ?_
  refine r_iload_n c289_10 rfl ?_
  refine r_ldcw c289_11 ?_
  refine r_iand c289_14 ?_
  refine r_iload_n c289_15 rfl ?_
  refine r_iconst c289_16 ?_
  refine r_iushr c289_17 ?_
  refine r_ldcw c289_18 ?_
  refine r_iand c289_21 ?_
  refine r_iadd c289_22 ?_
  refine r_istore_n c289_23 (Nat.le_of_ble_eq_true rfl) ?_
  refine r_iload_n c289_24 rfl ?_
  refine r_iload_n c289_25 rfl ?_
  refine r_iconst c289_26 ?_
  refine r_iushr c289_27 ?_
  refine r_iadd c289_28 ?_
  refine r_ldcw c289_29 ?_
  refine r_iand c289_32 ?_
  refine r_istore_n c289_33 (Nat.le_of_ble_eq_true rfl) ?_
  refine r_iload_n c289_34 rfl ?_
  refine r_iload_n c289_35 rfl ?_
  refine r_bipush c289_36 ?_
  refine r_iushr c289_38 ?_
  refine r_iadd c289_39 ?_
  refine r_istore_n c289_40 (Nat.le_of_ble_eq_true rfl) ?_
  refine r_iload_n c289_41 rfl ?_
  refine r_iload_n c289_42 rfl ?_
  refine r_bipush c289_43 ?_
  refine r_iushr c289_45 ?_
  refine r_iadd c289_46 ?_
  refine r_istore_n c289_47 (Nat.le_of_ble_eq_true rfl) ?_
  refine r_iload_n c289_48 rfl ?_
  refine r_bipush c289_49 ?_
  refine r_iand c289_51 ?_
  exact r_iret c289_52 (Or.inl rfl) h
/-! bits that are set, counted -/
def pcn : Nat → Nat → Nat
  | 0, _ => 0
  | k + 1, n => n % 2 + pcn k (n / 2)
def bc1 (n : Nat) : Nat := n - ((n >>> 1) &&& 1431655765)
def bc2 (n : Nat) : Nat := (bc1 n &&& 858993459) + ((bc1 n >>> 2) &&& 858993459)
def bc3 (n : Nat) : Nat := (bc2 n + (bc2 n >>> 4)) &&& 252645135
def bc4 (n : Nat) : Nat := bc3 n + (bc3 n >>> 8)
def bc5 (n : Nat) : Nat := bc4 n + (bc4 n >>> 16)
theorem pc_dec : ∀ a, a < 64 → ∀ b, b < 64 → (((64 * a + b) >>> 1) &&& 1431655765) ≤ 64 * a + b ∧ bc2 (64 * a + b) < 1000000 ∧ bc2 (64 * a + b) + (bc2 (64 * a + b) >>> 4) < 1000000 ∧ bc4 (64 * a + b) < 1000000 ∧ bc5 (64 * a + b) < 1000000 ∧ (bc5 (64 * a + b) &&& 63) = pcn 12 (64 * a + b) := by decide +kernel
theorem pc_ok {n : Nat} (h : n < 4096) : ((n >>> 1) &&& 1431655765) ≤ n ∧ bc2 n < 1000000 ∧ bc2 n + (bc2 n >>> 4) < 1000000 ∧ bc4 n < 1000000 ∧ bc5 n < 1000000 ∧ (bc5 n &&& 63) = pcn 12 n := by
  have := pc_dec (n / 64) (by omega) (n % 64) (by omega)
  rw [show 64 * (n / 64) + n % 64 = n by omega] at this
  exact this
theorem ushr_n {a : Nat} (k : Nat) (ha : a < 2147483648) : (BitVec.ofInt 32 (a : Int) >>> k).toInt = ((a >>> k : Nat) : Int) := by
  have e : (BitVec.ofInt 32 (a : Int) >>> k).toNat = a >>> k := by rw [BitVec.toNat_ushiftRight, bv_n ha]
  rw [bv_i (by rw [e, Nat.shiftRight_eq_div_pow]; exact Nat.lt_of_le_of_lt (Nat.div_le_self _ _) ha), e]
section PC
variable {a : Nat}
theorem us1 (ha : a < 2147483648) : jushr (a : Int) 1 = ((a >>> 1 : Nat) : Int) := ushr_n 1 ha
theorem us2 (ha : a < 2147483648) : jushr (a : Int) 2 = ((a >>> 2 : Nat) : Int) := ushr_n 2 ha
theorem us4 (ha : a < 2147483648) : jushr (a : Int) 4 = ((a >>> 4 : Nat) : Int) := ushr_n 4 ha
theorem us8 (ha : a < 2147483648) : jushr (a : Int) 8 = ((a >>> 8 : Nat) : Int) := ushr_n 8 ha
theorem us16 (ha : a < 2147483648) : jushr (a : Int) 16 = ((a >>> 16 : Nat) : Int) := ushr_n 16 ha
theorem an1 (ha : a < 2147483648) : jand (a : Int) 1431655765 = ((a &&& 1431655765 : Nat) : Int) := jand_n (b := 1431655765) ha (by decide)
theorem an2 (ha : a < 2147483648) : jand (a : Int) 858993459 = ((a &&& 858993459 : Nat) : Int) := jand_n (b := 858993459) ha (by decide)
theorem an3 (ha : a < 2147483648) : jand (a : Int) 252645135 = ((a &&& 252645135 : Nat) : Int) := jand_n (b := 252645135) ha (by decide)
theorem an4 (ha : a < 2147483648) : jand (a : Int) 63 = ((a &&& 63 : Nat) : Int) := jand_n (b := 63) ha (by decide)
end PC
theorem g289 {d : Nat} {M : Mem} {K : KK} {Q : RR → Mem → KK → Prop} {n : Nat} (hK : K.1 = 923) (hX : FX M) (h : n < 4096) (k : Q (.inl (some (vI (pcn 12 n : Int)))) M K) : Wm d 289 [vI (n : Int)] M K Q := by
  obtain ⟨q1, q2, q3, q4, q5, q6⟩ := pc_ok h
  have sl : ∀ {x : Nat} (j : Nat), x >>> j ≤ x := fun j => by rw [Nat.shiftRight_eq_div_pow]; exact Nat.div_le_self _ _
  have l1 := sl (x := n) 1
  have l2 := sl (x := bc1 n) 2
  have l4 := sl (x := bc2 n) 4
  have l8 := sl (x := bc3 n) 8
  have l16 := sl (x := bc4 n) 16
  have b1le : bc1 n ≤ n := Nat.sub_le _ _
  have b3le : bc3 n ≤ 252645135 := Nat.and_le_right
  refine u289_0 hK hX ?_
  have e1 : w32 ((n : Int) - (jand (jushr (n : Int) 1) 1431655765)) = (bc1 n : Int) := by
    rw [us1 (by omega), an1 (by omega), w32_id (by omega)]; unfold bc1; omega
  have e2 : w32 (jand (bc1 n : Int) 858993459 + jand (jushr (bc1 n : Int) 2) 858993459) = (bc2 n : Int) := by
    have h2 : bc2 n = (bc1 n &&& 858993459) + ((bc1 n >>> 2) &&& 858993459) := rfl
    rw [us2 (by omega), an2 (by omega), an2 (by omega), w32_id (by omega)]; omega
  have e3 : jand (w32 ((bc2 n : Int) + jushr (bc2 n : Int) 4)) 252645135 = (bc3 n : Int) := by
    rw [us4 (by omega), w32_id (by omega), show ((bc2 n : Nat) : Int) + ((bc2 n >>> 4 : Nat) : Int) = ((bc2 n + bc2 n >>> 4 : Nat) : Int) by omega, an3 (by omega)]; rfl
  have e4 : w32 ((bc3 n : Int) + jushr (bc3 n : Int) 8) = (bc4 n : Int) := by
    have h4 : bc4 n = bc3 n + (bc3 n >>> 8) := rfl
    rw [us8 (by omega), w32_id (by omega)]; omega
  have e5 : w32 ((bc4 n : Int) + jushr (bc4 n : Int) 16) = (bc5 n : Int) := by
    have h5 : bc5 n = bc4 n + (bc4 n >>> 16) := rfl
    rw [us16 (by omega), w32_id (by omega)]; omega
  rw [e1, e2, e3, e4, e5, an4 (by omega), q6]
  exact k
theorem pc_or : ∀ k a b, pcn k (a ||| b) ≤ pcn k a + pcn k b := by
  intro k
  induction k with
  | zero => intro a b; exact Nat.le_refl _
  | succ k ih =>
    intro a b
    simp only [pcn]
    have h := ih (a / 2) (b / 2)
    rw [← Nat.or_div_two] at h
    have h2 : (a ||| b) % 2 ≤ a % 2 + b % 2 := by
      have := Nat.or_mod_two_eq_one (a := a) (b := b)
      omega
    omega
theorem pc_row : ∀ x, x < 13 → ∀ m, m < 13 → x + m ≤ 12 → pcn 12 (rowB x m) ≤ m := by decide +kernel
/-! strips laid so that most is gone: the best by what is taken -/
def yN (c : Mem) (p : Nat) : Nat := (c 2 p).toNat
def pkE (c s : Mem) (L : LC) (p x : Nat) : Int := min (s 1 p) (whD c s L p (x : Int))
def z0 : Nat → Int := fun _ => 0
/-- a strip's worth at each cell, V the best of those behind -/
def pkg (c s : Mem) (L : LC) (T p S : Nat) (V : Nat → Int) (x : Nat) : Int := if T.testBit p = true ∧ x + yN c p ≤ nCe c ∧ S &&& rowB x (yN c p) = 0 then pkE c s L p x + V (S ||| rowB x (yN c p)) else -1
def pkT (c s : Mem) (L : LC) (T : Nat) : Nat → Nat → Int
  | 0, _ => 0
  | j + 1, S => max (pkT c s L T j S) (fdS (pkg c s L T (nSt c - (j + 1)) S (pkT c s L T j)) z0 0 13).1
def pkV (c s : Mem) (L : LC) (T p S : Nat) : Int := pkT c s L T (nSt c - p) S
/-- best and first of a strip's cells -/
def pkC (c s : Mem) (L : LC) (T p S k : Nat) : Int × Nat := fdS (pkg c s L T p S (pkV c s L T (p + 1))) z0 0 k
abbrev pkOn (c s : Mem) (L : LC) (T p S : Nat) : Prop := (pkC c s L T p S 13).1 ≠ -1 ∧ pkV c s L T (p + 1) S ≤ (pkC c s L T p S 13).1
def pkX (c s : Mem) (L : LC) (T p S : Nat) : Int := if pkOn c s L T p S then ((pkC c s L T p S 13).2 : Int) else -1
def pkS (c s : Mem) (L : LC) (T p S : Nat) : Nat := if pkOn c s L T p S then S ||| rowB (pkC c s L T p S 13).2 (yN c p) else S
/-- taken, i strips behind p -/
def pkF (c s : Mem) (L : LC) (T p S : Nat) : Nat → Nat
  | 0 => S
  | i + 1 => pkS c s L T (p + i) (pkF c s L T p S i)
section PK
variable {c s : Mem} {L : LC} {T p S : Nat}
theorem pkV_N : pkV c s L T (nSt c) S = 0 := by unfold pkV; rw [Nat.sub_self]; rfl
theorem pkV_s (h : p < nSt c) : pkV c s L T p S = max (pkV c s L T (p + 1) S) (pkC c s L T p S 13).1 := by
  have e : nSt c - p = (nSt c - (p + 1)) + 1 := by omega
  have e2 : pkV c s L T p S = pkT c s L T ((nSt c - (p + 1)) + 1) S := by unfold pkV; rw [e]
  rw [e2]
  show max (pkT c s L T (nSt c - (p + 1)) S) (fdS (pkg c s L T (nSt c - ((nSt c - (p + 1)) + 1)) S (pkT c s L T (nSt c - (p + 1)))) z0 0 13).1 = _
  rw [show nSt c - ((nSt c - (p + 1)) + 1) = p by omega]
  rfl
theorem pkE_rg (hs : LW c s) (hp : p < nSt c) (x : Nat) : 0 ≤ pkE c s L p x ∧ pkE c s L p x ≤ 99 := by
  have := hs.1 p hp
  have h2 : 0 ≤ whD c s L p (x : Int) ∧ whD c s L p (x : Int) ≤ 99 := by unfold whD; exact whB_rg
  unfold pkE; omega
theorem pkg_rg (hs : LW c s) (hp : p < nSt c) {V : Nat → Int} {B : Int} (hV : ∀ S, 0 ≤ V S ∧ V S ≤ B) (hB : 0 ≤ B) (x : Nat) : -1 ≤ pkg c s L T p S V x ∧ pkg c s L T p S V x ≤ 99 + B := by
  have := pkE_rg (L := L) hs hp x
  have := hV (S ||| rowB x (yN c p))
  unfold pkg; split <;> omega
theorem fd_mx {g : Nat → Int} {B : Int} (hg : ∀ k, -1 ≤ g k ∧ g k ≤ B) (hB : 0 ≤ B) : ∀ k, -1 ≤ (fdS g z0 0 k).1 ∧ (fdS g z0 0 k).1 ≤ B := by
  intro k
  induction k with
  | zero => exact ⟨Int.le_refl _, by show (-1 : Int) ≤ _; omega⟩
  | succ k ih =>
    simp only [fdS]
    have := hg k
    split
    · unfold z0; dsimp only; omega
    · exact ih
theorem pkT_rg (hs : LW c s) : ∀ j S, j ≤ nSt c → 0 ≤ pkT c s L T j S ∧ pkT c s L T j S ≤ 99 * (j : Int) := by
  intro j
  induction j with
  | zero => intro S _; simp only [pkT]; omega
  | succ j ih =>
    intro S hj
    have h1 := ih S (by omega)
    have h2 := fd_mx (g := pkg c s L T (nSt c - (j + 1)) S (pkT c s L T j)) (B := 99 + 99 * (j : Int)) (pkg_rg hs (by omega) (fun S => ih S (by omega)) (by omega)) (by omega) 13
    simp only [pkT]; omega
theorem pkV_rg (hs : LW c s) (hN : nSt c ≤ 6) : 0 ≤ pkV c s L T p S ∧ pkV c s L T p S ≤ 594 := by
  have := pkT_rg (L := L) (T := T) hs (nSt c - p) S (by omega)
  unfold pkV; omega
theorem pkG_rg (hs : LW c s) (hN : nSt c ≤ 6) (hp : p < nSt c) (x : Nat) : -1 ≤ pkg c s L T p S (pkV c s L T (p + 1)) x ∧ pkg c s L T p S (pkV c s L T (p + 1)) x ≤ 693 :=
  pkg_rg hs hp (fun S => pkV_rg hs hN) (by omega) x
theorem pkC_rg (hs : LW c s) (hN : nSt c ≤ 6) (hp : p < nSt c) (k : Nat) : -1 ≤ (pkC c s L T p S k).1 ∧ (pkC c s L T p S k).1 ≤ 693 := fd_mx (pkG_rg hs hN hp) (by omega) k
/-- the first among the best; all k -/
theorem pkC_first (hs : LW c s) (hN : nSt c ≤ 6) (hp : p < nSt c) (k : Nat) : (∀ i, i < k → pkg c s L T p S (pkV c s L T (p + 1)) i ≤ (pkC c s L T p S k).1) ∧ ((pkC c s L T p S k).1 ≠ -1 → pkg c s L T p S (pkV c s L T (p + 1)) (pkC c s L T p S k).2 = (pkC c s L T p S k).1 ∧ (pkC c s L T p S k).2 < k ∧ ∀ i, i < (pkC c s L T p S k).2 → pkg c s L T p S (pkV c s L T (p + 1)) i ≠ (pkC c s L T p S k).1) := by
  obtain ⟨a, b⟩ := fdS_first (g := pkg c s L T p S (pkV c s L T (p + 1))) (D := z0) (m := 0) (fun k => (pkG_rg hs hN hp k).1) (fun k => by unfold z0; omega) k
  refine ⟨fun i hi => ?_, fun h => ?_⟩
  · have h1 := (pkG_rg (L := L) (T := T) (S := S) hs hN hp i).1
    have h2 := (pkC_rg (L := L) (T := T) (S := S) hs hN hp k).1
    by_cases h9 : pkg c s L T p S (pkV c s L T (p + 1)) i = -1
    · omega
    · have := a i hi h9 (by unfold z0; decide)
      unfold z0 at this; unfold pkC; unfold z0; omega
  · obtain ⟨x, y, z, w, v⟩ := b h
    refine ⟨?_, w, fun i hi h9 => ?_⟩
    · unfold z0 at z; unfold pkC; unfold z0; omega
    · have h8 : pkg c s L T p S (pkV c s L T (p + 1)) i ≠ -1 := by rw [h9]; exact h
      refine v i hi h8 (by unfold z0; decide) ?_
      unfold z0; unfold pkC at h9; unfold z0 at h9; omega
theorem pkC_s {k : Nat} : pkC c s L T p S (k + 1) = if pkg c s L T p S (pkV c s L T (p + 1)) k ≠ -1 ∧ (pkC c s L T p S k).1 < pkg c s L T p S (pkV c s L T (p + 1)) k then (pkg c s L T p S (pkV c s L T (p + 1)) k, k) else pkC c s L T p S k := by
  show (if pkg c s L T p S (pkV c s L T (p + 1)) k ≠ -1 ∧ z0 (0 - k) ≠ -1 ∧ (pkC c s L T p S k).1 < pkg c s L T p S (pkV c s L T (p + 1)) k + z0 (0 - k) then (pkg c s L T p S (pkV c s L T (p + 1)) k + z0 (0 - k), k) else pkC c s L T p S k) = _
  have e : z0 (0 - k) = 0 := rfl
  rw [e, Int.add_zero]
  by_cases h : pkg c s L T p S (pkV c s L T (p + 1)) k ≠ -1 ∧ (pkC c s L T p S k).1 < pkg c s L T p S (pkV c s L T (p + 1)) k
  · rw [if_pos h, if_pos ⟨h.1, by decide, h.2⟩]
  · rw [if_neg h, if_neg (fun h9 => h ⟨h9.1, h9.2.2⟩)]
/-- behind the last cell nothing changes -/
theorem pkC_stop {k : Nat} (hk : nCe c + 1 - yN c p ≤ k ∨ T.testBit p = false) (h13 : k ≤ 13) : pkC c s L T p S 13 = pkC c s L T p S k := by
  have := fdS_stop (g := pkg c s L T p S (pkV c s L T (p + 1))) (D := z0) (m := 0) (t := k) (fun i hi => by
    unfold pkg
    rw [if_neg (fun h9 => ?_)]
    rcases hk with hk | hk
    · have := h9.2.1; omega
    · rw [hk] at h9; exact absurd h9.1 (by decide)) (13 - k)
  rw [show k + (13 - k) = 13 by omega] at this
  exact this
theorem pkV_no (hs : LW c s) (hN : nSt c ≤ 6) (hp : p < nSt c) (hT : T.testBit p = false) : pkV c s L T p S = pkV c s L T (p + 1) S ∧ pkX c s L T p S = -1 ∧ pkS c s L T p S = S := by
  have e := pkC_stop (c := c) (s := s) (L := L) (S := S) (k := 0) (Or.inr hT) (by omega)
  have e0 : (pkC c s L T p S 0) = (-1, 0) := rfl
  have h1 := pkV_rg (L := L) (T := T) (p := p + 1) (S := S) hs hN
  refine ⟨?_, ?_, ?_⟩
  · rw [pkV_s hp, e, e0]; dsimp only; omega
  · unfold pkX pkOn; rw [e, e0, if_neg (fun h => h.1 rfl)]
  · unfold pkS pkOn; rw [e, e0, if_neg (fun h => h.1 rfl)]
theorem pkF_s (i : Nat) : pkF c s L T p S (i + 1) = pkF c s L T (p + 1) (pkS c s L T p S) i := by
  induction i with
  | zero => rfl
  | succ i ih =>
    show pkS c s L T (p + (i + 1)) (pkF c s L T p S (i + 1)) = pkS c s L T (p + 1 + i) (pkF c s L T (p + 1) (pkS c s L T p S) i)
    rw [ih, show p + (i + 1) = p + 1 + i by omega]
end PK
/-- yards of those asked, ahead of p -/
def yA (c : Mem) (T : Nat) (p : Nat) : Int := sumF (fun q => bitI T q * c 2 q) p
theorem yA_ok {c : Mem} {T p : Nat} (hp : p ≤ nSt c) : yardS c (T &&& (2 ^ p - 1)) = yA c T p := by
  have tb : ∀ q, (T &&& (2 ^ p - 1)).testBit q = (T.testBit q && decide (q < p)) := fun q => by rw [Nat.testBit_and, Nat.testBit_two_pow_sub_one]
  have : ∀ n, p ≤ n → sumF (fun q => bitI (T &&& (2 ^ p - 1)) q * c 2 q) n = yA c T p := by
    intro n hn
    induction n with
    | zero =>
      have : p = 0 := by omega
      subst this; rfl
    | succ n ih =>
      by_cases hpn : p = n + 1
      · subst hpn
        unfold yA
        refine sumF_cg _ (fun i hi => ?_)
        unfold bitI; rw [tb, decide_eq_true hi, Bool.and_true]
      · simp only [sumF]
        rw [ih (by omega)]
        have e : bitI (T &&& (2 ^ p - 1)) n = 0 := by
          unfold bitI; rw [tb, decide_eq_false (by omega), Bool.and_false]; rfl
        rw [e]; omega
  exact this _ hp
