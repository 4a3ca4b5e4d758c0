theorem u16_0 {d : Nat} {l1 : Int} {l2 : Int} {l3 : Int} {M : Mem} {K : KK} {Q : RR → Mem → KK → Prop} (hK : K.1 = 923) (hX : FX M)  (h : Wp d 16 9 [vR 139, vI l1, vI l2, vI l3, vI (-1 : Int), vI (0 : Int), vI (0 : Int), vU] [] M K Q) : Wp d 16 0 [vR 139, vI l1, vI l2, vI l3, vU, vU, vU, vU] [] M K Q := by
  refine r_iconst c16_0 ?_
  refine r_istore c16_1 (Nat.le_of_ble_eq_true rfl) ?_
  refine r_iconst c16_3 ?_
  refine r_istore c16_4 (Nat.le_of_ble_eq_true rfl) ?_
  refine r_iconst c16_6 ?_
  refine r_istore c16_7 (Nat.le_of_ble_eq_true rfl) ?_
  exact h
theorem u16_9 {d : Nat} {l1 : Int} {l2 : Int} {l3 : Int} {l4 : Int} {l5 : Int} {l6 : Int} {l7 : PV} {M : Mem} {K : KK} {Q : RR → Mem → KK → Prop} (hK : K.1 = 923) (hX : FX M)  (h : (l3 < l6 → (0 ≤ (w32 ((w32 (l1 * (21 : Int))) + l2)) ∧ (w32 ((w32 (l1 * (21 : Int))) + l2)) < (147 : Int)) ∧ (0 ≤ (w32 ((w32 (l1 * (21 : Int))) + l2)) ∧ (w32 ((w32 (l1 * (21 : Int))) + l2)) < (126 : Int)) ∧ Q (.inl none) (mset (mset M 140 (Int.toNat (w32 ((w32 (l1 * (21 : Int))) + l2))) l4) 141 (Int.toNat (w32 ((w32 (l1 * (21 : Int))) + l2))) l5) K) ∧ (¬ (l3 < l6) → (0 ≤ (w32 ((w32 ((w32 ((w32 (l1 + (1 : Int))) * (21 : Int))) + l2)) - l6)) ∧ (w32 ((w32 ((w32 ((w32 (l1 + (1 : Int))) * (21 : Int))) + l2)) - l6)) < (147 : Int)) ∧ ((M 140 (Int.toNat (w32 ((w32 ((w32 ((w32 (l1 + (1 : Int))) * (21 : Int))) + l2)) - l6)))) = (-1 : Int) → Wp d 16 9 [vR 139, vI l1, vI l2, vI l3, vI l4, vI l5, vI (w32 (l6 + 1)), vI (M 140 (Int.toNat (w32 ((w32 ((w32 ((w32 (l1 + (1 : Int))) * (21 : Int))) + l2)) - l6))))] [] M K Q) ∧ (¬ ((M 140 (Int.toNat (w32 ((w32 ((w32 ((w32 (l1 + (1 : Int))) * (21 : Int))) + l2)) - l6)))) = (-1 : Int)) → (0 ≤ l6 ∧ l6 < (10 : Int)) ∧ ((w32 ((M 142 (Int.toNat l6)) + (M 140 (Int.toNat (w32 ((w32 ((w32 ((w32 (l1 + (1 : Int))) * (21 : Int))) + l2)) - l6)))))) ≤ l4 → Wp d 16 9 [vR 139, vI l1, vI l2, vI l3, vI l4, vI l5, vI (w32 (l6 + 1)), vI (M 140 (Int.toNat (w32 ((w32 ((w32 ((w32 (l1 + (1 : Int))) * (21 : Int))) + l2)) - l6))))] [] M K Q) ∧ (¬ ((w32 ((M 142 (Int.toNat l6)) + (M 140 (Int.toNat (w32 ((w32 ((w32 ((w32 (l1 + (1 : Int))) * (21 : Int))) + l2)) - l6)))))) ≤ l4) → (0 ≤ l6 ∧ l6 < (10 : Int)) ∧ Wp d 16 9 [vR 139, vI l1, vI l2, vI l3, vI (w32 ((M 142 (Int.toNat l6)) + (M 140 (Int.toNat (w32 ((w32 ((w32 ((w32 (l1 + (1 : Int))) * (21 : Int))) + l2)) - l6)))))), vI l6, vI (w32 (l6 + 1)), vI (M 140 (Int.toNat (w32 ((w32 ((w32 ((w32 (l1 + (1 : Int))) * (21 : Int))) + l2)) - l6))))] [] M K Q)))) : Wp d 16 9 [vR 139, vI l1, vI l2, vI l3, vI l4, vI l5, vI l6, l7] [] M K Q := by
  refine r_iload c16_9 rfl ?_
  refine r_iload_n c16_11 rfl ?_
  refine r_icmpP (P := l3 < l6) c16_12 rfl (fun hc1 => ?_) (fun hc1 => ?_)
  · replace h := h.1 hc1
    refine r_aload_n c16_76 rfl ?_
    refine r_getR c16_77 (oK hK o139) (FX.get (b := 140) hX (by decide) (by decide +kernel) (by decide)) (by decide) ?_
    refine r_iload_n c16_80 rfl ?_
    refine r_bipush c16_81 ?_
    refine r_imul c16_83 ?_
    refine r_iload_n c16_84 rfl ?_
    refine r_iadd c16_85 ?_
    refine r_iload c16_86 rfl ?_
    obtain ⟨s2, h⟩ := h
    refine r_ias c16_88 (oK hK o140) (bd l140 s2) ?_
    have x3 := FX.set (v := l4) (a := 140) (k := (Int.toNat (w32 ((w32 (l1 * (21 : Int))) + l2)))) hX (nfa o140 _)
    refine r_aload_n c16_89 rfl ?_
    refine r_getR c16_90 (oK hK o139) (FX.get (b := 141) x3 (by decide) (by decide +kernel) (by decide)) (by decide) ?_
    refine r_iload_n c16_93 rfl ?_
    refine r_bipush c16_94 ?_
    refine r_imul c16_96 ?_
    refine r_iload_n c16_97 rfl ?_
    refine r_iadd c16_98 ?_
    refine r_iload c16_99 rfl ?_
    obtain ⟨s4, h⟩ := h
    refine r_ias c16_101 (oK hK o141) (bd l141 s4) ?_
    have x5 := FX.set (v := l5) (a := 141) (k := (Int.toNat (w32 ((w32 (l1 * (21 : Int))) + l2)))) x3 (nfa o141 _)
    exact r_ret c16_102 h
  · replace h := h.2 hc1
    refine r_aload_n c16_15 rfl ?_
    refine r_getR c16_16 (oK hK o139) (FX.get (b := 140) hX (by decide) (by decide +kernel) (by decide)) (by decide) ?_
    refine r_iload_n c16_19 rfl ?_
    refine r_iconst c16_20 ?_
    refine r_iadd c16_21 ?_
    refine r_bipush c16_22 ?_
    refine r_imul c16_24 ?_
    refine r_iload_n c16_25 rfl ?_
    refine r_iadd c16_26 ?_
    refine r_iload c16_27 rfl ?_
    refine r_isub c16_29 ?_
    obtain ⟨s6, h⟩ := h
    refine r_iae c16_30 (oK hK o140) (bd l140 s6) rfl ?_
    refine r_istore c16_31 (Nat.le_of_ble_eq_true rfl) ?_
    refine r_iload c16_33 rfl ?_
    refine r_iconst c16_35 ?_
    refine r_icmpP (P := (M 140 (Int.toNat (w32 ((w32 ((w32 ((w32 (l1 + (1 : Int))) * (21 : Int))) + l2)) - l6)))) = (-1 : Int)) c16_36 rfl (fun hc7 => ?_) (fun hc7 => ?_)
    · replace h := h.1 hc7
      refine r_iinc c16_70 rfl ?_
      refine r_goto c16_73 ?_
      exact h
    · replace h := h.2 hc7
      refine r_aload_n c16_39 rfl ?_
      refine r_getR c16_40 (oK hK o139) (FX.get (b := 142) hX (by decide) (by decide +kernel) (by decide)) (by decide) ?_
      refine r_iload c16_43 rfl ?_
      obtain ⟨s8, h⟩ := h
      refine r_iae c16_45 (oK hK o142) (bd l142 s8) rfl ?_
      refine r_iload c16_46 rfl ?_
      refine r_iadd c16_48 ?_
      refine r_iload c16_49 rfl ?_
      refine r_icmpP (P := (w32 ((M 142 (Int.toNat l6)) + (M 140 (Int.toNat (w32 ((w32 ((w32 ((w32 (l1 + (1 : Int))) * (21 : Int))) + l2)) - l6)))))) ≤ l4) c16_51 rfl (fun hc9 => ?_) (fun hc9 => ?_)
      · replace h := h.1 hc9
        refine r_iinc c16_70 rfl ?_
        refine r_goto c16_73 ?_
        exact h
      · replace h := h.2 hc9
        refine r_aload_n c16_54 rfl ?_
        refine r_getR c16_55 (oK hK o139) (FX.get (b := 142) hX (by decide) (by decide +kernel) (by decide)) (by decide) ?_
        refine r_iload c16_58 rfl ?_
        obtain ⟨s10, h⟩ := h
        refine r_iae c16_60 (oK hK o142) (bd l142 s10) rfl ?_
        refine r_iload c16_61 rfl ?_
        refine r_iadd c16_63 ?_
        refine r_istore c16_64 (Nat.le_of_ble_eq_true rfl) ?_
        refine r_iload c16_66 rfl ?_
        refine r_istore c16_68 (Nat.le_of_ble_eq_true rfl) ?_
        refine r_iinc c16_70 rfl ?_
        refine r_goto c16_73 ?_
        exact h
/-! wettings dealt out: the best by what is left -/
/-- the best and its first choice among the first k; g: gone by a number of wettings (-1: can't be), D: the best of those behind -/
def fdS (g D : Nat → Int) (m : Nat) : Nat → Int × Nat
  | 0 => (-1, 0)
  | k + 1 => if g k ≠ -1 ∧ D (m - k) ≠ -1 ∧ (fdS g D m k).1 < g k + D (m - k) then (g k + D (m - k), k) else fdS g D m k
/-- the best of the j last of N strips -/
def dT (g : Nat → Nat → Int) (N : Nat) : Nat → Nat → Int
  | 0, m => if m = 0 then 0 else -1
  | j + 1, m => (fdS (g (N - (j + 1))) (dT g N j) m (m + 1)).1
def dR (g : Nat → Nat → Int) (N p : Nat) : Nat → Int := dT g N (N - p)
def cR (g : Nat → Nat → Int) (N p m : Nat) : Nat := (fdS (g p) (dR g N (p + 1)) m (m + 1)).2
theorem dR_N {g : Nat → Nat → Int} {N : Nat} (m : Nat) : dR g N N m = if m = 0 then 0 else -1 := by unfold dR; rw [Nat.sub_self]; rfl
theorem dR_s {g : Nat → Nat → Int} {N p : Nat} (h : p < N) (m : Nat) : dR g N p m = (fdS (g p) (dR g N (p + 1)) m (m + 1)).1 := by
  unfold dR
  rw [show N - p = (N - (p + 1)) + 1 by omega]
  show (fdS (g (N - ((N - (p + 1)) + 1))) (dT g N (N - (p + 1))) m (m + 1)).1 = _
  rw [show N - ((N - (p + 1)) + 1) = p by omega]
section FD
variable {g D : Nat → Int} {m : Nat}
theorem fdS_stop {t : Nat} (h : ∀ k, t ≤ k → g k = -1) : ∀ j, fdS g D m (t + j) = fdS g D m t := by
  intro j
  induction j with
  | zero => rfl
  | succ j ih =>
    show fdS g D m ((t + j) + 1) = _
    simp only [fdS]
    rw [if_neg (fun h9 => h9.1 (h (t + j) (by omega)))]; exact ih
theorem fdS_le : ∀ k, (fdS g D m k).2 ≤ k - 1 := by
  intro k
  induction k with
  | zero => exact Nat.le_refl 0
  | succ k ih =>
    simp only [fdS]
    split
    · exact Nat.le_refl _
    · omega
theorem fdS_rg {B : Int} (hg : ∀ k, -1 ≤ g k ∧ g k ≤ 99) (hD : ∀ k, -1 ≤ D k ∧ D k ≤ B) (hB : 0 ≤ B) : ∀ k, -1 ≤ (fdS g D m k).1 ∧ (fdS g D m k).1 ≤ 99 + B := by
  intro k
  induction k with
  | zero => exact ⟨Int.le_refl _, by show (-1 : Int) ≤ _; omega⟩
  | succ k ih =>
    simp only [fdS]
    have := hg k
    have := hD (m - k)
    split
    · rename_i h9; dsimp only; omega
    · exact ih
/-- the choice is the first that comes to the best -/
theorem fdS_first (hg : ∀ k, -1 ≤ g k) (hD : ∀ k, -1 ≤ D k) : ∀ k, (∀ i, i < k → g i ≠ -1 → D (m - i) ≠ -1 → g i + D (m - i) ≤ (fdS g D m k).1) ∧ ((fdS g D m k).1 ≠ -1 → g (fdS g D m k).2 ≠ -1 ∧ D (m - (fdS g D m k).2) ≠ -1 ∧ g (fdS g D m k).2 + D (m - (fdS g D m k).2) = (fdS g D m k).1 ∧ (fdS g D m k).2 < k ∧ ∀ i, i < (fdS g D m k).2 → g i ≠ -1 → D (m - i) ≠ -1 → g i + D (m - i) ≠ (fdS g D m k).1) := by
  intro k
  induction k with
  | zero => exact ⟨fun i hi => absurd hi (by omega), fun h => absurd rfl h⟩
  | succ k ih =>
    simp only [fdS]
    obtain ⟨i1, i2⟩ := ih
    split
    · rename_i h9
      refine ⟨fun i hi a b => ?_, fun _ => ⟨h9.1, h9.2.1, rfl, by omega, fun i hi a b => ?_⟩⟩
      · by_cases hik : i = k
        · subst hik; exact Int.le_refl _
        · have := i1 i (by omega) a b
          dsimp only; omega
      · have := i1 i hi a b
        dsimp only; omega
    · rename_i h9
      refine ⟨fun i hi a b => ?_, fun h => ?_⟩
      · by_cases hik : i = k
        · subst hik
          have := hg i
          have := hD (m - i)
          by_cases h8 : (fdS g D m i).1 < g i + D (m - i)
          · exact absurd ⟨a, b, h8⟩ h9
          · omega
        · exact i1 i (by omega) a b
      · obtain ⟨a, b, c, e, f⟩ := i2 h
        exact ⟨a, b, c, by omega, f⟩
theorem fdS_cg {g' D' : Nat → Int} : ∀ k, (∀ i, i < k → g i = g' i ∧ D (m - i) = D' (m - i)) → fdS g D m k = fdS g' D' m k := by
  intro k
  induction k with
  | zero => intro _; rfl
  | succ k ih =>
    intro h
    simp only [fdS]
    rw [ih (fun i hi => h i (by omega)), (h k (by omega)).1, (h k (by omega)).2]
end FD
theorem dT_rg {g : Nat → Nat → Int} {N : Nat} (hg : ∀ p k, -1 ≤ g p k ∧ g p k ≤ 99) : ∀ j m, -1 ≤ dT g N j m ∧ dT g N j m ≤ 99 * (j : Int) := by
  intro j
  induction j with
  | zero => intro m; simp only [dT]; split <;> omega
  | succ j ih =>
    intro m
    have := fdS_rg (m := m) (hg (N - (j + 1))) ih (by omega) (m + 1)
    simp only [dT]; omega
theorem dR_rg {g : Nat → Nat → Int} {N p : Nat} (hN : N ≤ 6) (hg : ∀ p k, -1 ≤ g p k ∧ g p k ≤ 99) (m : Nat) : -1 ≤ dR g N p m ∧ dR g N p m ≤ 594 := by
  have := dT_rg (N := N) hg (N - p) m
  unfold dR; omega
/-- what is left ahead of the strip p -/
def lfS (g : Nat → Nat → Int) (N n : Nat) : Nat → Nat
  | 0 => n
  | p + 1 => lfS g N n p - cR g N p (lfS g N n p)
theorem cR_le {g : Nat → Nat → Int} {N p m : Nat} : cR g N p m ≤ m := by have := fdS_le (g := g p) (D := dR g N (p + 1)) (m := m) (m + 1); unfold cR; omega
theorem lfS_le {g : Nat → Nat → Int} {N n : Nat} : ∀ p, lfS g N n p ≤ n := by
  intro p
  induction p with
  | zero => exact Nat.le_refl _
  | succ p ih => simp only [lfS]; omega
/-- gone by k wettings more -/
def dlG (c s : Mem) (L : LC) (p k : Nat) : Int := if s 0 p = -1 then (if k = 0 then 0 else -1) else if s 2 p + (k : Int) ≤ 9 then min (s 1 p) (whB c L p (s 0 p) (s 1 p) (rainS c (s 4 0)) (s 2 p + (k : Int)) (s 3 p) (s 4 0)) else -1
/-- how many more there can be -/
def dlM (s : Mem) (p : Nat) : Nat := if s 0 p = -1 then 0 else (9 - s 2 p).toNat
def gdS (c s : Mem) (L : LC) (p k : Nat) : Int := if p < nSt c then dlG c s L p k else -1
section DL
variable {c s : Mem} {L : LC} {p : Nat}
theorem dlG_hi (hs : LW c s) (hp : p < nSt c) : ∀ k, dlM s p + 1 ≤ k → dlG c s L p k = -1 := by
  intro k hk
  have := hs.1 p hp
  unfold dlG; unfold dlM at hk
  split
  · rename_i h; rw [if_pos h] at hk; rw [if_neg (by omega)]
  · rename_i h; rw [if_neg h] at hk; rw [if_neg (by omega)]
theorem dlG_lo (hs : LW c s) (hp : p < nSt c) : ∀ k, k ≤ dlM s p → 0 ≤ dlG c s L p k ∧ dlG c s L p k ≤ 99 := by
  intro k hk
  have := hs.1 p hp
  unfold dlG; unfold dlM at hk
  split
  · rename_i h; rw [if_pos h] at hk; rw [if_pos (by omega)]; omega
  · rename_i h; rw [if_neg h] at hk; rw [if_pos (by omega)]
    have := whB_rg (c := c) (L := L) (p := p) (x := s 0 p) (g := s 1 p) (rain := rainS c (s 4 0)) (wet := s 2 p + (k : Int)) (milk := s 3 p) (dy := s 4 0)
    omega
theorem gdS_rg (hs : LW c s) (p k : Nat) : -1 ≤ gdS c s L p k ∧ gdS c s L p k ≤ 99 := by
  unfold gdS
  split
  · rename_i hp
    by_cases hk : k ≤ dlM s p
    · have := dlG_lo (L := L) hs hp k hk; omega
    · rw [dlG_hi hs hp k (by omega)]; omega
  · omega
theorem dlM_le (hs : LW c s) (hp : p < nSt c) : dlM s p ≤ 9 := by have := hs.1 p hp; unfold dlM; split <;> omega
end DL
section CD
variable {d : Nat} {M M' : Mem} {K : KK} {Q : RR → Mem → KK → Prop} {cm a l p : Nat} {c s : Mem} {L : LC}
theorem dl_o : (isO 923 140 20 = true ∧ ln 140 = 147) ∧ (isO 923 141 20 = true ∧ ln 141 = 126) ∧ (isO 923 142 20 = true ∧ ln 142 = 10) ∧ (isO 923 143 20 = true ∧ ln 143 = 6) := by decide +kernel
/-- only the dealing's rows and the law's scratch have changed -/
def FrDl (M M' : Mem) : Prop := ∀ b k, ¬ scL b → ¬ (140 ≤ b ∧ b ≤ 143) → M' b k = M b k
theorem FrDl.rf : FrDl M M := fun _ _ _ _ => rfl
theorem FrDl.tr {M1 M2 : Mem} (h1 : FrDl M M1) (h2 : FrDl M1 M2) : FrDl M M2 := fun b k p q => (h2 b k p q).trans (h1 b k p q)
theorem FrDl.mem {b k : Nat} {v : Int} (hb : 140 ≤ b ∧ b ≤ 143) : FrDl M (mset M b k v) := fun b' k' _ h2 => ms_na (fun e => h2 (e ▸ hb))
theorem SKc.dl (hcm : isO 923 cm 0 = true) (ha : isO 923 a 3 = true) (hd : a + 4 < 139 ∨ 143 < a) (hf : FrDl M M') (hs : SKc M cm a c s) : SKc M' cm a c s := by
  have hg0 := rg0 hcm
  have hg3 := rg3 ha
  refine ⟨⟨fun k hk => (hf _ _ (by unfold scL; omega) (by omega)).trans (hs.1.1 k hk), fun b h1 h2 i hi => (hf _ _ (by unfold scL; omega) (by omega)).trans (hs.1.2 b h1 h2 i hi)⟩, hs.2.1, hs.2.2.1.fr (fun b j h1 h2 => hf b j (by unfold scL; omega) (by omega)), hs.2.2.2⟩
theorem LWC.dl (hcm : isO 923 cm 0 = true) (hf : FrDl M M') (hL : LWC M cm L l) : LWC M' cm L l := by
  have hg0 := rg0 hcm
  have hg2 := rg2 hL.2.1
  exact ⟨(hf _ _ (by unfold scL; omega) (by omega)).trans hL.1, hL.2.1, ⟨(hf _ _ (by unfold scL; omega) (by omega)).trans hL.2.2.1.1, hL.2.2.1.2.1, fun i hi => (hf _ _ (by unfold scL; omega) (by omega)).trans (hL.2.2.1.2.2 i hi)⟩, hL.2.2.2⟩
theorem g16 {m t : Nat} {G D : Nat → Int} (hK : K.1 = 923) (hX : FX M) (hp : p < 6) (hm : m ≤ 20) (ht : t ≤ 9 ∧ t ≤ m) (hG : ∀ k, k ≤ t → M 142 k = G k ∧ 0 ≤ G k ∧ G k ≤ 99) (hD : ∀ j, j ≤ m → M 140 ((p + 1) * 21 + j) = D j ∧ -1 ≤ D j ∧ D j ≤ 594)
    (k : FX (mset (mset M 140 (p * 21 + m) (fdS G D m (t + 1)).1) 141 (p * 21 + m) ((fdS G D m (t + 1)).2 : Int)) → Q (.inl none) (mset (mset M 140 (p * 21 + m) (fdS G D m (t + 1)).1) 141 (p * 21 + m) ((fdS G D m (t + 1)).2 : Int)) K) : Wm d 16 [vR 139, vI (p : Int), vI (m : Int), vI (t : Int)] M K Q := by
  refine u16_0 hK hX ?_
  have loop : ∀ f i, i + f = t + 1 → ∀ v : PV, Wp d 16 9 [vR 139, vI (p : Int), vI (m : Int), vI (t : Int), vI (fdS G D m i).1, vI ((fdS G D m i).2 : Int), vI (i : Int), v] [] M K Q := by
    intro f
    induction f with
    | zero =>
      intro i hi v
      have hit : i = t + 1 := by omega
      subst hit
      refine u16_9 hK hX ⟨fun _ => ?_, fun h => absurd h (by omega)⟩
      rw [w32_id (z := (p : Int) * 21) (by omega), w32_id (by omega), show ((p : Int) * 21 + (m : Int)).toNat = p * 21 + m by omega]
      exact ⟨by omega, by omega, k ((hX.set (nfa dl_o.1.1 _)).set (nfa dl_o.2.1.1 _))⟩
    | succ f ih =>
      intro i hi v
      refine u16_9 hK hX ⟨fun h => absurd h (by omega), fun _ => ?_⟩
      obtain ⟨g1, g2⟩ := hG i (by omega)
      obtain ⟨d1, d2⟩ := hD (m - i) (by omega)
      have e : w32 (w32 (w32 (w32 ((p : Int) + 1) * 21) + (m : Int)) - (i : Int)) = (((p + 1) * 21 + (m - i) : Nat) : Int) := by
        rw [w1 (by omega), w32_id (z := ((p + 1 : Nat) : Int) * 21) (by omega), w32_id (z := ((p + 1 : Nat) : Int) * 21 + (m : Int)) (by omega), w32_id (by omega)]; omega
      rw [e, Int.toNat_natCast, d1, Int.toNat_natCast, g1]
      have hn : fdS G D m (i + 1) = if G i ≠ -1 ∧ D (m - i) ≠ -1 ∧ (fdS G D m i).1 < G i + D (m - i) then (G i + D (m - i), i) else fdS G D m i := rfl
      have nx := ih (i + 1) (by omega)
      rw [w1 (by omega), w32_id (z := G i + D (m - i)) (by omega)]
      refine ⟨by omega, fun h => ?_, fun h => ⟨by omega, fun h2 => ?_, fun h2 => ⟨by omega, ?_⟩⟩⟩
      · rw [hn, if_neg (fun h9 => h9.2.1 h)] at nx
        exact nx _
      · rw [hn, if_neg (fun h9 => by omega)] at nx
        exact nx _
      · rw [hn, if_pos ⟨by omega, h, by omega⟩] at nx
        exact nx _
  exact loop (t + 1) 0 (by omega) vU
end CD
