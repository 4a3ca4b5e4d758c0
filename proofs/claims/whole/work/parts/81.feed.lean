theorem u83_0 {d : Nat} {l1 : Int} {M : Mem} {K : KK} {Q : RR → Mem → KK → Prop} (hK : K.1 = 923) (hX : FX M)  (h : Wp d 83 3 [vR 33, vI l1, vI (24 : Int)] [] M K Q) : Wp d 83 0 [vR 33, vI l1, vU] [] M K Q := by
  refine r_bipush c83_0 ?_
  refine r_istore_n c83_2 (Nat.le_of_ble_eq_true rfl) ?_
  exact h
theorem u83_3 {d : Nat} {l1 : Int} {l2 : Int} {M : Mem} {K : KK} {Q : RR → Mem → KK → Prop} (hK : K.1 = 923) (hX : FX M)  (h : (l2 < (0 : Int) → Q (.inl none) M K) ∧ (¬ (l2 < (0 : Int)) → ((600 : Int) ≤ (M 33 1) → Q (.inl none) M K) ∧ (¬ ((600 : Int) ≤ (M 33 1)) → (0 ≤ (M 33 1) ∧ (M 33 1) < (600 : Int)) ∧ Wp d 83 3 [vR 33, vI l1, vI (w32 (l2 + (-8)))] [] (mset (mset M 34 (Int.toNat (M 33 1)) (ji2c (ji2c (jand (jushr l1 l2) (255 : Int))))) 33 1 (w32 ((M 33 1) + (1 : Int)))) K Q))) : Wp d 83 3 [vR 33, vI l1, vI l2] [] M K Q := by
  refine r_iload_n c83_3 rfl ?_
  refine r_ifP (P := l2 < (0 : Int)) c83_4 rfl (fun hc1 => ?_) (fun hc1 => ?_)
  · replace h := h.1 hc1
    exact r_ret c83_52 h
  · replace h := h.2 hc1
    refine r_aload_n c83_7 rfl ?_
    refine r_getIe c83_8 (oK hK o33) rfl ?_
    refine r_aload_n c83_11 rfl ?_
    refine r_getR c83_12 (oK hK o33) (FX.get (b := 34) hX (by decide) (by decide +kernel) (by decide)) (by decide) ?_
    refine r_alene c83_15 (mal o34 rfl hK) l34 ?_
    refine r_icmpP (P := (600 : Int) ≤ (M 33 1)) c83_16 rfl (fun hc2 => ?_) (fun hc2 => ?_)
    · replace h := h.1 hc2
      exact r_ret c83_52 h
    · replace h := h.2 hc2
      refine r_aload_n c83_19 rfl ?_
      refine r_getR c83_20 (oK hK o33) (FX.get (b := 34) hX (by decide) (by decide +kernel) (by decide)) (by decide) ?_
      refine r_aload_n c83_23 rfl ?_
      refine r_getIe c83_24 (oK hK o33) rfl ?_
      refine r_iload_n c83_27 rfl ?_
      refine r_iload_n c83_28 rfl ?_
      refine r_iushr c83_29 ?_
      refine r_sipush c83_30 ?_
      refine r_iand c83_33 ?_
      refine r_i2c c83_34 ?_
      obtain ⟨s3, h⟩ := h
      refine r_cas c83_35 (oK hK o34) (bd l34 s3) ?_
      have x4 := FX.set (v := (ji2c (ji2c (jand (jushr l1 l2) (255 : Int))))) (a := 34) (k := (Int.toNat (M 33 1))) hX (nfc o34 _)
      refine r_aload_n c83_36 rfl ?_
      refine r_dupr c83_37 ?_
      refine r_getIe c83_38 (oK hK o33) (ms_na (by decide)) ?_
      refine r_iconst c83_41 ?_
      refine r_iadd c83_42 ?_
      refine r_putI c83_43 (oK hK o33) ?_
      have x5 := FX.set (v := (w32 ((M 33 1) + (1 : Int)))) (a := 33) (k := 1) x4 (by decide +kernel)
      refine r_iinc c83_46 rfl ?_
      refine r_goto c83_49 ?_
      exact h
theorem u157_0 {d : Nat} {l1 : Int} {l2 : Int} {l3 : Int} {l4 : Int} {l5 : Int} {M : Mem} {K : KK} {Q : RR → Mem → KK → Prop} (hK : K.1 = 923) (hX : FX M)  (h : ((w32 ((M 440 1) + (20 : Int))) ≤ (600 : Int) → Wp d 157 23 [vR 440, vI l1, vI l2, vI l3, vI l4, vI l5, vI (0 : Int), vU] [] (mset M 440 0 (0 : Int)) K Q) ∧ (¬ ((w32 ((M 440 1) + (20 : Int))) ≤ (600 : Int)) → Q (.inl (some (vI (-1 : Int)))) (mset M 440 0 (0 : Int)) K)) : Wp d 157 0 [vR 440, vI l1, vI l2, vI l3, vI l4, vI l5, vU, vU] [] M K Q := by
  refine r_aload_n c157_0 rfl ?_
  refine r_iconst c157_1 ?_
  refine r_putI c157_2 (oK hK o440) ?_
  have x1 := FX.set (v := (0 : Int)) (a := 440) (k := 0) hX (by decide +kernel)
  refine r_aload_n c157_5 rfl ?_
  refine r_getIe c157_6 (oK hK o440) (ms_nk (by decide)) ?_
  refine r_bipush c157_9 ?_
  refine r_iadd c157_11 ?_
  refine r_sipush c157_12 ?_
  refine r_icmpP (P := (w32 ((M 440 1) + (20 : Int))) ≤ (600 : Int)) c157_15 rfl (fun hc2 => ?_) (fun hc2 => ?_)
  · replace h := h.1 hc2
    refine r_iconst c157_20 ?_
    refine r_istore c157_21 (Nat.le_of_ble_eq_true rfl) ?_
    exact h
  · replace h := h.2 hc2
    refine r_iconst c157_18 ?_
    exact r_iret c157_19 (Or.inl rfl) h
theorem u157_23 {d : Nat} {l1 : Int} {l2 : Int} {l3 : Int} {l4 : Int} {l5 : Int} {l6 : Int} {l7 : PV} {M : Mem} {K : KK} {Q : RR → Mem → KK → Prop} (hK : K.1 = 923) (hX : FX M)  (h : ((20 : Int) ≤ l6 → Q (.inl (some (vI (M 440 1)))) M K) ∧ (¬ ((20 : Int) ≤ l6) → ((4 : Int) ≤ l6 → ((8 : Int) ≤ l6 → ((12 : Int) ≤ l6 → ((16 : Int) ≤ l6 → Wp d 157 76 [vR 440, vI l1, vI l2, vI l3, vI l4, vI l5, vI l6, l7] [vI l5] M K Q) ∧ (¬ ((16 : Int) ≤ l6) → Wp d 157 76 [vR 440, vI l1, vI l2, vI l3, vI l4, vI l5, vI l6, l7] [vI l4] M K Q)) ∧ (¬ ((12 : Int) ≤ l6) → Wp d 157 76 [vR 440, vI l1, vI l2, vI l3, vI l4, vI l5, vI l6, l7] [vI l3] M K Q)) ∧ (¬ ((8 : Int) ≤ l6) → Wp d 157 76 [vR 440, vI l1, vI l2, vI l3, vI l4, vI l5, vI l6, l7] [vI l2] M K Q)) ∧ (¬ ((4 : Int) ≤ l6) → Wp d 157 76 [vR 440, vI l1, vI l2, vI l3, vI l4, vI l5, vI l6, l7] [vI l1] M K Q))) : Wp d 157 23 [vR 440, vI l1, vI l2, vI l3, vI l4, vI l5, vI l6, l7] [] M K Q := by
  refine r_iload c157_23 rfl ?_
  refine r_bipush c157_25 ?_
  refine r_icmpP (P := (20 : Int) ≤ l6) c157_27 rfl (fun hc1 => ?_) (fun hc1 => ?_)
  · replace h := h.1 hc1
    refine r_aload_n c157_120 rfl ?_
    refine r_getIe c157_121 (oK hK o440) rfl ?_
    exact r_iret c157_124 (Or.inl rfl) h
  · replace h := h.2 hc1
    refine r_iload c157_30 rfl ?_
    refine r_iconst c157_32 ?_
    refine r_icmpP (P := (4 : Int) ≤ l6) c157_33 rfl (fun hc2 => ?_) (fun hc2 => ?_)
    · replace h := h.1 hc2
      refine r_iload c157_40 rfl ?_
      refine r_bipush c157_42 ?_
      refine r_icmpP (P := (8 : Int) ≤ l6) c157_44 rfl (fun hc3 => ?_) (fun hc3 => ?_)
      · replace h := h.1 hc3
        refine r_iload c157_51 rfl ?_
        refine r_bipush c157_53 ?_
        refine r_icmpP (P := (12 : Int) ≤ l6) c157_55 rfl (fun hc4 => ?_) (fun hc4 => ?_)
        · replace h := h.1 hc4
          refine r_iload c157_62 rfl ?_
          refine r_bipush c157_64 ?_
          refine r_icmpP (P := (16 : Int) ≤ l6) c157_66 rfl (fun hc5 => ?_) (fun hc5 => ?_)
          · replace h := h.1 hc5
            refine r_iload c157_74 rfl ?_
            exact h
          · replace h := h.2 hc5
            refine r_iload c157_69 rfl ?_
            refine r_goto c157_71 ?_
            exact h
        · replace h := h.2 hc4
          refine r_iload_n c157_58 rfl ?_
          refine r_goto c157_59 ?_
          exact h
      · replace h := h.2 hc3
        refine r_iload_n c157_47 rfl ?_
        refine r_goto c157_48 ?_
        exact h
    · replace h := h.2 hc2
      refine r_iload_n c157_36 rfl ?_
      refine r_goto c157_37 ?_
      exact h
theorem u157_76 {d : Nat} {l1 : Int} {l2 : Int} {l3 : Int} {l4 : Int} {l5 : Int} {l6 : Int} {l7 : PV} {t0 : Int} {M : Mem} {K : KK} {Q : RR → Mem → KK → Prop} (hK : K.1 = 923) (hX : FX M)  (h : (0 ≤ (M 440 1) ∧ (M 440 1) < (600 : Int)) ∧ Wp d 157 23 [vR 440, vI l1, vI l2, vI l3, vI l4, vI l5, vI (w32 (l6 + 1)), vI t0] [] (mset (mset M 441 (Int.toNat (M 440 1)) (jand (jshr t0 (w32 ((24 : Int) - (w32 ((8 : Int) * (Int.tmod l6 (4 : Int))))))) (255 : Int))) 440 1 (w32 ((M 440 1) + (1 : Int)))) K Q) : Wp d 157 76 [vR 440, vI l1, vI l2, vI l3, vI l4, vI l5, vI l6, l7] [vI t0] M K Q := by
  refine r_istore c157_76 (Nat.le_of_ble_eq_true rfl) ?_
  refine r_aload_n c157_78 rfl ?_
  refine r_getR c157_79 (oK hK o440) (FX.get (b := 441) hX (by decide) (by decide +kernel) (by decide)) (by decide) ?_
  refine r_aload_n c157_82 rfl ?_
  refine r_getIe c157_83 (oK hK o440) rfl ?_
  refine r_iload c157_86 rfl ?_
  refine r_bipush c157_88 ?_
  refine r_bipush c157_90 ?_
  refine r_iload c157_92 rfl ?_
  refine r_iconst c157_94 ?_
  refine r_irem c157_95 (by decide) ?_
  refine r_imul c157_96 ?_
  refine r_isub c157_97 ?_
  refine r_ishr c157_98 ?_
  refine r_sipush c157_99 ?_
  refine r_iand c157_102 ?_
  obtain ⟨s1, h⟩ := h
  refine r_ias c157_103 (oK hK o441) (bd l441 s1) ?_
  have x2 := FX.set (v := (jand (jshr t0 (w32 ((24 : Int) - (w32 ((8 : Int) * (Int.tmod l6 (4 : Int))))))) (255 : Int))) (a := 441) (k := (Int.toNat (M 440 1))) hX (nfa o441 _)
  refine r_aload_n c157_104 rfl ?_
  refine r_dupr c157_105 ?_
  refine r_getIe c157_106 (oK hK o440) (ms_na (by decide)) ?_
  refine r_iconst c157_109 ?_
  refine r_iadd c157_110 ?_
  refine r_putI c157_111 (oK hK o440) ?_
  have x3 := FX.set (v := (w32 ((M 440 1) + (1 : Int)))) (a := 440) (k := 1) x2 (by decide +kernel)
  refine r_iinc c157_114 rfl ?_
  refine r_goto c157_117 ?_
  exact h
/-! feed -/
/-- the byte k of a number, the highest first -/
def by8 (n : Int) (k : Nat) : Int := jand (jshr n (24 - 8 * (k : Int))) 255
theorem mask8 : ∀ i : Fin 32, 8 ≤ i.val → (255#32).getLsbD i.val = false := by decide
theorem bv_m8 (v : BitVec 32) (k : Nat) (hk : k ≤ 24) : v.sshiftRight k &&& 255#32 = (v >>> k) &&& 255#32 := by
  ext i hi
  by_cases h : i < 8
  · simp [BitVec.getElem_sshiftRight, show k + i < 32 by omega]
  · have : (255#32)[i] = false := by
      rw [← BitVec.getLsbD_eq_getElem]
      exact mask8 ⟨i, hi⟩ (Nat.le_of_not_lt h)
    simp only [BitVec.getElem_and, this, Bool.and_false]
section B8
variable {x : Int}
theorem ju24 : jushr x 24 = (BitVec.ofInt 32 x >>> 24).toInt := rfl
theorem ju16 : jushr x 16 = (BitVec.ofInt 32 x >>> 16).toInt := rfl
theorem ju8 : jushr x 8 = (BitVec.ofInt 32 x >>> 8).toInt := rfl
theorem ju0 : jushr x 0 = (BitVec.ofInt 32 x >>> 0).toInt := rfl
theorem js24 : jshr x 24 = ((BitVec.ofInt 32 x).sshiftRight 24).toInt := by
  show (Int32.ofInt x >>> (Int32.ofInt 24 &&& 31)).toBitVec.toInt = _
  rw [Int32.toBitVec_shiftRight]; rfl
theorem js16 : jshr x 16 = ((BitVec.ofInt 32 x).sshiftRight 16).toInt := jshr_bv
theorem js8 : jshr x 8 = ((BitVec.ofInt 32 x).sshiftRight 8).toInt := by
  show (Int32.ofInt x >>> (Int32.ofInt 8 &&& 31)).toBitVec.toInt = _
  rw [Int32.toBitVec_shiftRight]; rfl
theorem js0 : jshr x 0 = ((BitVec.ofInt 32 x).sshiftRight 0).toInt := by
  show (Int32.ofInt x >>> (Int32.ofInt 0 &&& 31)).toBitVec.toInt = _
  rw [Int32.toBitVec_shiftRight]; rfl
theorem jm8 {b : BitVec 32} : jand b.toInt 255 = (b &&& 255#32).toInt := by
  rw [jand_bv, BitVec.ofInt_toInt]; rfl
theorem by8_u {k : Nat} (hk : k < 4) : jand (jushr x (24 - 8 * (k : Int))) 255 = by8 x k := by
  unfold by8
  rcases (show k = 0 ∨ k = 1 ∨ k = 2 ∨ k = 3 by omega) with rfl | rfl | rfl | rfl
  · show jand (jushr x 24) 255 = jand (jshr x 24) 255
    rw [ju24, js24, jm8, jm8, bv_m8 _ _ (by decide)]
  · show jand (jushr x 16) 255 = jand (jshr x 16) 255
    rw [ju16, js16, jm8, jm8, bv_m8 _ _ (by decide)]
  · show jand (jushr x 8) 255 = jand (jshr x 8) 255
    rw [ju8, js8, jm8, jm8, bv_m8 _ _ (by decide)]
  · show jand (jushr x 0) 255 = jand (jshr x 0) 255
    rw [ju0, js0, jm8, jm8, bv_m8 _ _ (by decide)]
theorem by8_rg {k : Nat} : 0 ≤ by8 x k ∧ by8 x k ≤ 255 := by
  unfold by8
  rw [jand_bv]
  have h : (BitVec.ofInt 32 (jshr x (24 - 8 * (k : Int))) &&& BitVec.ofInt 32 255).toNat ≤ 255 := by
    rw [BitVec.toNat_and]
    exact Nat.le_trans Nat.and_le_right (by decide)
  rw [BitVec.toInt_eq_toNat_of_lt (by omega)]
  omega
theorem i2c_b : ∀ n : Nat, n < 256 → ji2c (n : Int) = (n : Int) := by decide +kernel
theorem i2c_8 {z : Int} (h : 0 ≤ z ∧ z ≤ 255) : ji2c z = z := by
  have := i2c_b z.toNat (by omega)
  rw [Int.toNat_of_nonneg h.1] at this; exact this
end B8
/-- the bytes behind j more of the fed -/
def fdB (B : BY) (nB : Nat) (a : Nat → Int) : BY := fun i => if i < nB then B i else by8 (a ((i - nB) / 4)) ((i - nB) % 4)
theorem fdB_at {B : BY} {nB : Nat} {a : Nat → Int} {q r : Nat} (hr : r < 4) : fdB B nB a (nB + (4 * q + r)) = by8 (a q) r := by
  unfold fdB
  rw [if_neg (by omega), show (nB + (4 * q + r) - nB) / 4 = q by omega, show (nB + (4 * q + r) - nB) % 4 = r by omega]
section FD
variable {d : Nat} {M M' : Mem} {K : KK} {Q : RR → Mem → KK → Prop} {nB : Nat} {B : BY} {fp : Int} {c : Mem} {L : LC} {s : Mem} {H : List Mem} {I : List IMG} {Y : LC} {rf ms wr : Int} {a : Nat → Int}
theorem o34' : isO 923 34 21 = true := by decide +kernel
/-- j bytes are fed: the class -/
def FdC (M : Mem) (nB : Nat) (B : BY) (a : Nat → Int) (j : Nat) (M1 : Mem) : Prop := M1 33 1 = ((nB + j : Nat) : Int) ∧ (∀ i, i < nB + j → M1 34 i = fdB B nB a i) ∧ ∀ b k, b ≠ 34 → ¬ (b = 33 ∧ k = 1) → M1 b k = M b k
theorem g83 {q : Nat} {v : Int} (hK : K.1 = 923) (hX : FX M') (h : FdC M nB B a (4 * q) M') (hq : nB + 20 ≤ 600) (hq5 : q < 5) (hv : v = a q) (k : ∀ M2, FX M2 → FdC M nB B a (4 * q + 4) M2 → Q (.inl none) M2 K) : Wm d 83 [vR 33, vI v] M' K Q := by
  refine u83_0 hK hX ?_
  have loop : ∀ f r, r + f = 4 → ∀ M1, FX M1 → FdC M nB B a (4 * q + r) M1 → Wp d 83 3 [vR 33, vI v, vI (24 - 8 * (r : Int))] [] M1 K Q := by
    intro f
    induction f with
    | zero =>
      intro r hr M1 x1 h1
      have : r = 4 := by omega
      subst this
      exact u83_3 hK x1 ⟨fun _ => k M1 x1 h1, fun h9 => absurd (by decide) h9⟩
    | succ f ih =>
      intro r hr M1 x1 h1
      obtain ⟨e1, e2, e3⟩ := h1
      refine u83_3 hK x1 ⟨fun h9 => absurd h9 (by omega), fun _ => ⟨fun h9 => absurd h9 (by omega), fun _ => ⟨by omega, ?_⟩⟩⟩
      rw [e1, Int.toNat_natCast, by8_u (by omega), i2c_8 by8_rg, i2c_8 by8_rg, w1 (by omega), w32_id (by omega), show (24 : Int) - 8 * (r : Int) + -8 = 24 - 8 * ((r + 1 : Nat) : Int) by omega]
      refine ih (r + 1) (by omega) _ ((x1.set (nfc o34' _)).set (by decide +kernel)) ⟨ms_eq, fun i hi => ?_, fun b k h1 h2 => ?_⟩
      · rw [ms_na (by decide)]
        by_cases hin : i = nB + (4 * q + r)
        · subst hin; rw [ms_eq, fdB_at (by omega), hv]
        · rw [ms_nk hin]; exact e2 i (by omega)
      · rw [show ∀ X : Mem, mset X 33 1 ((nB + (4 * q + r) + 1 : Nat) : Int) b k = X b k from fun X => by unfold mset; rw [if_neg h2], ms_na h1]
        exact e3 b k h1 h2
  exact loop 4 0 rfl M' hX h
/-- j bytes are fed: the model -/
def FdM (M : Mem) (nB : Nat) (B : BY) (a : Nat → Int) (j : Nat) (M1 : Mem) : Prop := M1 440 1 = ((nB + j : Nat) : Int) ∧ (∀ i, i < nB + j → M1 441 i = fdB B nB a i) ∧ ∀ b k, b ≠ 441 → ¬ (b = 440 ∧ k = 1) → M1 b k = M b k
theorem o441' : isO 923 441 20 = true := by decide +kernel
def ar5 (a0 a1 a2 a3 a4 : Int) : Nat → Int := fun q => if q = 0 then a0 else if q = 1 then a1 else if q = 2 then a2 else if q = 3 then a3 else a4
theorem g157 {a0 a1 a2 a3 a4 : Int} (hK : K.1 = 923) (hX : FX M) (h : M 440 1 = (nB : Int) ∧ (∀ i, i < nB → M 441 i = B i) ∧ nB ≤ 600) (k1 : nB + 20 ≤ 600 → ∀ M1, FX M1 → FdM (mset M 440 0 0) nB B (ar5 a0 a1 a2 a3 a4) 20 M1 → Q (.inl (some (vI ((nB + 20 : Nat) : Int)))) M1 K) (k2 : ¬ nB + 20 ≤ 600 → Q (.inl (some (vI (-1)))) (mset M 440 0 0) K) : Wm d 157 [vR 440, vI a0, vI a1, vI a2, vI a3, vI a4] M K Q := by
  obtain ⟨h1, h2, h3⟩ := h
  refine u157_0 hK hX ?_
  rw [h1, w32_id (by omega)]
  refine ⟨fun h9 => ?_, fun h9 => k2 (by omega)⟩
  have loop : ∀ f j, j + f = 20 → ∀ (v : PV) M1, FX M1 → FdM (mset M 440 0 0) nB B (ar5 a0 a1 a2 a3 a4) j M1 → Wp d 157 23 [vR 440, vI a0, vI a1, vI a2, vI a3, vI a4, vI (j : Int), v] [] M1 K Q := by
    intro f
    induction f with
    | zero =>
      intro j hj v M1 x1 hf
      have : j = 20 := by omega
      subst this
      refine u157_23 hK x1 ⟨fun _ => ?_, fun h9 => absurd (by decide) h9⟩
      rw [hf.1]; exact k1 (by omega) M1 x1 hf
    | succ f ih =>
      intro j hj v M1 x1 hf
      obtain ⟨e1, e2, e3⟩ := hf
      have put : ∀ t0, t0 = ar5 a0 a1 a2 a3 a4 (j / 4) → Wp d 157 76 [vR 440, vI a0, vI a1, vI a2, vI a3, vI a4, vI (j : Int), v] [vI t0] M1 K Q := by
        intro t0 ht
        have et : Int.tmod (j : Int) 4 = ((j % 4 : Nat) : Int) := by rw [Int.tmod_eq_emod_of_nonneg (by omega)]; omega
        refine u157_76 hK x1 ?_
        rw [e1, Int.toNat_natCast, et, w32_id (z := 8 * ((j % 4 : Nat) : Int)) (by omega), w32_id (z := 24 - 8 * ((j % 4 : Nat) : Int)) (by omega), w1 (i := j) (by omega), w1 (by omega)]
        have eb : jand (jshr t0 (24 - 8 * ((j % 4 : Nat) : Int))) 255 = by8 t0 (j % 4) := rfl
        rw [eb]
        refine ⟨by omega, ih (j + 1) (by omega) _ _ ((x1.set (nfa o441' _)).set (by decide +kernel)) ⟨ms_eq, fun i hi => ?_, fun b k h1 h2 => ?_⟩⟩
        · rw [ms_na (by decide)]
          by_cases hin : i = nB + j
          · subst hin
            rw [ms_eq, ht]
            have := fdB_at (B := B) (nB := nB) (a := ar5 a0 a1 a2 a3 a4) (q := j / 4) (r := j % 4) (by omega)
            rw [show 4 * (j / 4) + j % 4 = j by omega] at this
            exact this.symm
          · rw [ms_nk hin]; exact e2 i (by omega)
        · rw [show ∀ X : Mem, mset X 440 1 ((nB + j + 1 : Nat) : Int) b k = X b k from fun X => by unfold mset; rw [if_neg h2], ms_na h1]
          exact e3 b k h1 h2
      refine u157_23 hK x1 ⟨fun h9 => absurd h9 (by omega), fun _ => ⟨fun q1 => ⟨fun q2 => ⟨fun q3 => ⟨fun q4 => ?_, fun q4 => ?_⟩, fun q3 => ?_⟩, fun q2 => ?_⟩, fun q1 => ?_⟩⟩
      · exact put _ (by rw [show j / 4 = 4 by omega]; rfl)
      · exact put _ (by rw [show j / 4 = 3 by omega]; rfl)
      · exact put _ (by rw [show j / 4 = 2 by omega]; rfl)
      · exact put _ (by rw [show j / 4 = 1 by omega]; rfl)
      · exact put _ (by rw [show j / 4 = 0 by omega]; rfl)
  refine loop 20 0 rfl vU _ hX.t0 ⟨(ms_nk (by decide)).trans h1, fun i hi => ?_, fun _ _ _ _ => rfl⟩
  rw [ms_na (by decide), h2 i hi]
  unfold fdB; rw [if_pos (by omega)]
end FD
theorem u98_0 {d : Nat} {l1 : Int} {l2 : Int} {l3 : Int} {l4 : Int} {l5 : Int} {M : Mem} {K : KK} {Q : RR → Mem → KK → Prop} (hK : K.1 = 923) (hX : FX M)  (h : ((w32 ((M 33 1) + (20 : Int))) ≤ (600 : Int) → Wm d 83 [vR 33, vI l1] M K (Bk d 98 23 26 83 [vR 32, vI l1, vI l2, vI l3, vI l4, vI l5] [] Q)) ∧ (¬ ((w32 ((M 33 1) + (20 : Int))) ≤ (600 : Int)) → Q (.inl (some (vI (-1 : Int)))) M K)) : Wp (d + 1) 98 0 [vR 32, vI l1, vI l2, vI l3, vI l4, vI l5] [] M K Q := by
  refine r_aload_n c98_0 rfl ?_
  refine r_getR c98_1 (oK hK o32) (FX.get (b := 33) hX (by decide) (by decide +kernel) (by decide)) (by decide) ?_
  refine r_getIe c98_4 (oK hK o33) rfl ?_
  refine r_bipush c98_7 ?_
  refine r_iadd c98_9 ?_
  refine r_sipush c98_10 ?_
  refine r_icmpP (P := (w32 ((M 33 1) + (20 : Int))) ≤ (600 : Int)) c98_13 rfl (fun hc1 => ?_) (fun hc1 => ?_)
  · replace h := h.1 hc1
    refine r_aload_n c98_18 rfl ?_
    refine r_getR c98_19 (oK hK o32) (FX.get (b := 33) hX (by decide) (by decide +kernel) (by decide)) (by decide) ?_
    refine r_iload_n c98_22 rfl ?_
    exact r_call c98_23 rfl rfl (Nat.le_of_ble_eq_true rfl) (okc_r rfl rfl (oK hK o33)) h
  · replace h := h.2 hc1
    refine r_iconst c98_16 ?_
    exact r_iret c98_17 (Or.inl rfl) h
theorem u98_26 {d : Nat} {l1 : Int} {l2 : Int} {l3 : Int} {l4 : Int} {l5 : Int} {M : Mem} {K : KK} {Q : RR → Mem → KK → Prop} (hK : K.1 = 923) (hX : FX M)  (h : Wm d 83 [vR 33, vI l2] M K (Bk d 98 31 34 83 [vR 32, vI l1, vI l2, vI l3, vI l4, vI l5] [] Q)) : Wp (d + 1) 98 26 [vR 32, vI l1, vI l2, vI l3, vI l4, vI l5] [] M K Q := by
  refine r_aload_n c98_26 rfl ?_
  refine r_getR c98_27 (oK hK o32) (FX.get (b := 33) hX (by decide) (by decide +kernel) (by decide)) (by decide) ?_
  refine r_iload_n c98_30 rfl ?_
  exact r_call c98_31 rfl rfl (Nat.le_of_ble_eq_true rfl) (okc_r rfl rfl (oK hK o33)) h
theorem u98_34 {d : Nat} {l1 : Int} {l2 : Int} {l3 : Int} {l4 : Int} {l5 : Int} {M : Mem} {K : KK} {Q : RR → Mem → KK → Prop} (hK : K.1 = 923) (hX : FX M)  (h : Wm d 83 [vR 33, vI l3] M K (Bk d 98 39 42 83 [vR 32, vI l1, vI l2, vI l3, vI l4, vI l5] [] Q)) : Wp (d + 1) 98 34 [vR 32, vI l1, vI l2, vI l3, vI l4, vI l5] [] M K Q := by
  refine r_aload_n c98_34 rfl ?_
  refine r_getR c98_35 (oK hK o32) (FX.get (b := 33) hX (by decide) (by decide +kernel) (by decide)) (by decide) ?_
  refine r_iload_n c98_38 rfl ?_
  exact r_call c98_39 rfl rfl (Nat.le_of_ble_eq_true rfl) (okc_r rfl rfl (oK hK o33)) h
theorem u98_42 {d : Nat} {l1 : Int} {l2 : Int} {l3 : Int} {l4 : Int} {l5 : Int} {M : Mem} {K : KK} {Q : RR → Mem → KK → Prop} (hK : K.1 = 923) (hX : FX M)  (h : Wm d 83 [vR 33, vI l4] M K (Bk d 98 48 51 83 [vR 32, vI l1, vI l2, vI l3, vI l4, vI l5] [] Q)) : Wp (d + 1) 98 42 [vR 32, vI l1, vI l2, vI l3, vI l4, vI l5] [] M K Q := by
  refine r_aload_n c98_42 rfl ?_
  refine r_getR c98_43 (oK hK o32) (FX.get (b := 33) hX (by decide) (by decide +kernel) (by decide)) (by decide) ?_
  refine r_iload c98_46 rfl ?_
  exact r_call c98_48 rfl rfl (Nat.le_of_ble_eq_true rfl) (okc_r rfl rfl (oK hK o33)) h
theorem u98_51 {d : Nat} {l1 : Int} {l2 : Int} {l3 : Int} {l4 : Int} {l5 : Int} {M : Mem} {K : KK} {Q : RR → Mem → KK → Prop} (hK : K.1 = 923) (hX : FX M)  (h : Wm d 83 [vR 33, vI l5] M K (Bk d 98 57 60 83 [vR 32, vI l1, vI l2, vI l3, vI l4, vI l5] [] Q)) : Wp (d + 1) 98 51 [vR 32, vI l1, vI l2, vI l3, vI l4, vI l5] [] M K Q := by
  refine r_aload_n c98_51 rfl ?_
  refine r_getR c98_52 (oK hK o32) (FX.get (b := 33) hX (by decide) (by decide +kernel) (by decide)) (by decide) ?_
  refine r_iload c98_55 rfl ?_
  exact r_call c98_57 rfl rfl (Nat.le_of_ble_eq_true rfl) (okc_r rfl rfl (oK hK o33)) h
theorem u98_60 {d : Nat} {l1 : Int} {l2 : Int} {l3 : Int} {l4 : Int} {l5 : Int} {M : Mem} {K : KK} {Q : RR → Mem → KK → Prop} (hK : K.1 = 923) (hX : FX M)  (h : Q (.inl (some (vI (M 33 1)))) M K) : Wp (d + 1) 98 60 [vR 32, vI l1, vI l2, vI l3, vI l4, vI l5] [] M K Q := by
  refine r_aload_n c98_60 rfl ?_
  refine r_getR c98_61 (oK hK o32) (FX.get (b := 33) hX (by decide) (by decide +kernel) (by decide)) (by decide) ?_
  refine r_getIe c98_64 (oK hK o33) rfl ?_
  exact r_iret c98_67 (Or.inl rfl) h
section FE
variable {d : Nat} {M M' : Mem} {K : KK} {Q : RR → Mem → KK → Prop} {nB : Nat} {B : BY} {fp : Int} {c : Mem} {L : LC} {s : Mem} {H : List Mem} {I : List IMG} {Y : LC} {rf ms wr : Int} {a0 a1 a2 a3 a4 : Int}
theorem c98 (hK : K.1 = 923) (hX : FX M) (hI : IV nB B c s H I Y) (h : CS M nB B fp c L s H I Y rf ms wr) (k : ∀ M', FX M' → HiC M M' → CS M' (if nB + 20 ≤ 600 then nB + 20 else nB) (if nB + 20 ≤ 600 then fdB B nB (ar5 a0 a1 a2 a3 a4) else B) fp c L s H I Y rf ms wr → Q (.inl (some (vI (if nB + 20 ≤ 600 then ((nB + 20 : Nat) : Int) else -1)))) M' K) : Wm (d + 1) 98 [vR 32, vI a0, vI a1, vI a2, vI a3, vI a4] M K Q := by
  have h600 := hI.1
  have h1 := h.1.1
  refine u98_0 hK hX ?_
  rw [h1, w32_id (by omega)]
  refine ⟨fun h9 => ?_, fun h9 => ?_⟩
  · rw [if_pos (by omega), if_pos (by omega), if_pos (by omega)] at k
    have h20 : nB + 20 ≤ 600 := by omega
    have f0 : FdC M nB B (ar5 a0 a1 a2 a3 a4) (4 * 0) M := ⟨h1, fun i hi => by rw [h.1.2.1 i (by omega)]; unfold fdB; rw [if_pos (by omega)], fun _ _ _ _ => rfl⟩
    refine g83 (q := 0) hK hX f0 h20 (by decide) rfl (fun M1 x1 f1 => Bk_n (u98_26 hK x1 ?_))
    refine g83 (q := 1) hK x1 f1 h20 (by decide) rfl (fun M2 x2 f2 => Bk_n (u98_34 hK x2 ?_))
    refine g83 (q := 2) hK x2 f2 h20 (by decide) rfl (fun M3 x3 f3 => Bk_n (u98_42 hK x3 ?_))
    refine g83 (q := 3) hK x3 f3 h20 (by decide) rfl (fun M4 x4 f4 => Bk_n (u98_51 hK x4 ?_))
    refine g83 (q := 4) hK x4 f4 h20 (by decide) rfl (fun M5 x5 f5 => Bk_n (u98_60 hK x5 ?_))
    obtain ⟨e1, e2, e3⟩ := f5
    rw [show 4 * 4 + 4 = 20 from rfl] at e1 e2
    obtain ⟨hw, hl, hlw⟩ := h.lk
    have hi := h.2.2.2.2.1
    rw [e1]
    exact k M5 x5 (fun a j h8 => e3 a j (by omega) (by omega)) (h.upd (fun b j h1 h2 h4 h5 h6 h7 => e3 b j (by omega) (by omega)) ⟨e1, e2, (e3 _ _ (by decide) (by omega)).trans h.1.2.2⟩ (hl.fr (fun b j h1 h2 => e3 _ _ (by omega) (by omega))) hlw (h.2.2.2.1.fr (fun b j h1 h2 => e3 _ _ (by omega) (by omega))) ⟨(e3 _ _ (by decide) (by omega)).trans hi.1, fun i hlt => ⟨(hi.2 i hlt).1.fr (fun b j h1 h2 => e3 _ _ (by omega) (by omega)), (hi.2 i hlt).2.fr (fun b j h1 h2 => e3 _ _ (by omega) (by omega))⟩⟩ ((e3 _ _ (by decide) (by omega)).trans h.2.2.2.2.2.1.1))
  · rw [if_neg (by omega), if_neg (by omega), if_neg (by omega)] at k
    exact k M hX (fun _ _ _ => rfl) h
theorem m157 (hK : K.1 = 923) (hX : FX M) (hI : IV nB B c s H I Y) (h : MS M nB B fp c L s H I Y rf ms wr) (k : ∀ M', FX M' → LoM M M' → M' 440 0 = 0 → MS M' (if nB + 20 ≤ 600 then nB + 20 else nB) (if nB + 20 ≤ 600 then fdB B nB (ar5 a0 a1 a2 a3 a4) else B) fp c L s H I Y rf ms wr → Q (.inl (some (vI (if nB + 20 ≤ 600 then ((nB + 20 : Nat) : Int) else -1)))) M' K) : Wm d 157 [vR 440, vI a0, vI a1, vI a2, vI a3, vI a4] M K Q := by
  refine g157 hK hX ⟨h.1.1, h.1.2.1, hI.1⟩ (fun h20 M1 x1 f1 => ?_) (fun h20 => ?_)
  · rw [if_pos h20, if_pos h20, if_pos h20] at k
    obtain ⟨e1, e2, e3⟩ := f1
    have h0 := h.q FrQm.t0 hI
    obtain ⟨⟨a1, a2, a3⟩, b, e, f, g, r1, r2, r3⟩ := h0
    refine k M1 x1 (fun a j h9 => (e3 a j (by omega) (by omega)).trans (FrQm.t0.lo a j h9)) ((e3 _ _ (by decide) (by omega)).trans ms_eq) ?_
    have hn := b.1.2.1.n
    obtain ⟨⟨x1, x2, x3, x4, x5⟩, x6, x7, x8, x9⟩ := b
    obtain ⟨y1, y2, y3⟩ := e
    have hH := hI.2.2.2.1.1
    have hI3 := hI.2.2.2.2.1.1
    refine ⟨⟨e1, e2, (e3 _ _ (by decide) (by omega)).trans a3⟩, ⟨⟨⟨fun k hk => (e3 _ _ (by omega) (by omega)).trans (x1.1 k hk), fun i hi => (e3 _ _ (by omega) (by omega)).trans (x1.2.1 i hi), fun i hi => ⟨(e3 _ _ (by omega) (by omega)).trans (x1.2.2.1 i hi).1, (e3 _ _ (by omega) (by omega)).trans (x1.2.2.1 i hi).2⟩, fun i hi => (e3 _ _ (by omega) (by omega)).trans (x1.2.2.2.1 i hi), fun i hi => (e3 _ _ (by omega) (by omega)).trans (x1.2.2.2.2 i hi)⟩, x2, x3.er (fun k => e3 _ _ (by omega) (by omega)), x4, (e3 _ _ (by omega) (by omega)).trans x5⟩, (e3 _ _ (by omega) (by omega)).trans x6, x7, fun i hi => ⟨(e3 _ _ (by omega) (by omega)).trans (x8 i hi).1, (e3 _ _ (by omega) (by omega)).trans (x8 i hi).2⟩, x9⟩, ⟨(e3 _ _ (by omega) (by omega)).trans y1, y2, fun k hk => ⟨(e3 _ _ (by omega) (by omega)).trans (y3 k hk).1, (e3 _ _ (by omega) (by omega)).trans (y3 k hk).2⟩⟩, ⟨(e3 _ _ (by omega) (by omega)).trans f.1, fun i hi => ⟨(f.2 i hi).1.er (fun k => e3 _ _ (by omega) (by omega)), (e3 _ _ (by omega) (by omega)).trans (f.2 i hi).2⟩⟩, ⟨(e3 _ _ (by omega) (by omega)).trans g.1, fun i hi => ⟨(e3 _ _ (by omega) (by omega)).trans (g.2 i hi).1, (g.2 i hi).2.1.eq (fun k => e3 _ _ (by omega) (by omega)), fun j hj => ((g.2 i hi).2.2 j hj).eq (fun k => e3 _ _ (by omega) (by omega))⟩⟩, (e3 _ _ (by omega) (by omega)).trans r1, (e3 _ _ (by omega) (by omega)).trans r2, (e3 _ _ (by omega) (by omega)).trans r3⟩
  · rw [if_neg h20, if_neg h20, if_neg h20] at k
    exact k _ hX.t0 FrQm.t0.lo ms_eq (h.q FrQm.t0 hI)
end FE
