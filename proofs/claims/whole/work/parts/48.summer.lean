/-! a summer drawn -/
theorem jushr_bv {x : Int} : jushr x 16 = (BitVec.ofInt 32 x >>> 16).toInt := rfl
theorem jand_bv {x y : Int} : jand x y = (BitVec.ofInt 32 x &&& BitVec.ofInt 32 y).toInt := rfl
theorem jshr_bv {x : Int} : jshr x 16 = ((BitVec.ofInt 32 x).sshiftRight 16).toInt := by
  show (Int32.ofInt x >>> (Int32.ofInt 16 &&& 31)).toBitVec.toInt = _
  rw [Int32.toBitVec_shiftRight]
  rfl
theorem mask_hi : ∀ i : Fin 32, 16 ≤ i.val → (32767#32).getLsbD i.val = false := by decide
theorem bv_mask (v : BitVec 32) : v.sshiftRight 16 &&& 32767#32 = (v >>> 16) &&& 32767#32 := by
  ext i hi
  by_cases h : i < 16
  · simp [BitVec.getElem_sshiftRight, show 16 + i < 32 by omega]
  · have : (32767#32)[i] = false := by
      rw [← BitVec.getLsbD_eq_getElem]
      exact mask_hi ⟨i, hi⟩ (Nat.le_of_not_lt h)
    simp only [BitVec.getElem_and, this, Bool.and_false]
def drawB (s : Int) : Int := jand (jushr s 16) 32767
theorem drawB_m {s : Int} : jand (jshr s 16) 32767 = drawB s := by
  unfold drawB
  rw [jand_bv, jand_bv, jushr_bv, jshr_bv, BitVec.ofInt_toInt, BitVec.ofInt_toInt]
  congr 1
  exact bv_mask _
theorem drawB_rg {s : Int} : 0 ≤ drawB s ∧ drawB s ≤ 32767 := by
  unfold drawB
  rw [jand_bv]
  have h : (BitVec.ofInt 32 (jushr s 16) &&& BitVec.ofInt 32 32767).toNat ≤ 32767 := by
    rw [BitVec.toNat_and]
    exact Nat.le_trans Nat.and_le_right (by decide)
  rw [BitVec.toInt_eq_toNat_of_lt (by omega)]
  omega
/-- the next seed, and what is drawn of it -/
def seedN (s : Int) : Int := w32 (w32 (s * 1103515245) + 12345)
def drawN (s by' : Int) : Int := if 0 < by' then Int.tmod (drawB (seedN s)) by' else 0
theorem drawN_rg {s b : Int} (hb : 0 < b) : 0 ≤ drawN s b ∧ drawN s b < b := by
  unfold drawN
  rw [if_pos hb]
  have := drawB_rg (s := seedN s)
  exact ⟨Int.tmod_nonneg _ this.1, Int.tmod_lt_of_pos _ hb⟩
theorem u81_0 {d : Nat} {l1 : Int} {M : Mem} {K : KK} {Q : RR → Mem → KK → Prop} (hK : K.1 = 923) (hX : FX M)  (h : ((0 : Int) < l1 → l1 ≠ 0 ∧ Q (.inl (some (vI (Int.tmod (jand (jushr (w32 ((w32 ((M 147 1) * (1103515245 : Int))) + (12345 : Int))) (16 : Int)) (32767 : Int)) l1)))) (mset M 147 1 (w32 ((w32 ((M 147 1) * (1103515245 : Int))) + (12345 : Int)))) K) ∧ (¬ ((0 : Int) < l1) → Q (.inl (some (vI (0 : Int)))) (mset M 147 1 (w32 ((w32 ((M 147 1) * (1103515245 : Int))) + (12345 : Int)))) K)) : Wp d 81 0 [vR 147, vI l1] [] M K Q := by
  refine r_aload_n c81_0 rfl ?_
  refine r_aload_n c81_1 rfl ?_
  refine r_getIe c81_2 (oK hK o147) rfl ?_
  refine r_ldci c81_5 ?_
  refine r_imul c81_7 ?_
  refine r_sipush c81_8 ?_
  refine r_iadd c81_11 ?_
  refine r_putI c81_12 (oK hK o147) ?_
  have x1 := FX.set (v := (w32 ((w32 ((M 147 1) * (1103515245 : Int))) + (12345 : Int)))) (a := 147) (k := 1) hX (by decide +kernel)
  refine r_iload_n c81_15 rfl ?_
  refine r_ifP (P := (0 : Int) < l1) c81_16 rfl (fun hc2 => ?_) (fun hc2 => ?_)
  · replace h := h.1 hc2
    refine r_aload_n c81_23 rfl ?_
    refine r_getIe c81_24 (oK hK o147) ms_eq ?_
    refine r_bipush c81_27 ?_
    refine r_iushr c81_29 ?_
    refine r_sipush c81_30 ?_
    refine r_iand c81_33 ?_
    refine r_iload_n c81_34 rfl ?_
    obtain ⟨s3, h⟩ := h
    refine r_irem c81_35 s3 ?_
    exact r_iret c81_36 (Or.inl rfl) h
  · replace h := h.2 hc2
    refine r_iconst c81_19 ?_
    refine r_goto c81_20 ?_
    exact r_iret c81_36 (Or.inl rfl) h
theorem u248_0 {d : Nat} {l1 : Int} {M : Mem} {K : KK} {Q : RR → Mem → KK → Prop} (hK : K.1 = 923) (hX : FX M)  (h : l1 ≠ 0 ∧ Q (.inl (some (vI (Int.tmod (jand (jshr (w32 ((w32 ((M 440 47) * (1103515245 : Int))) + (12345 : Int))) (16 : Int)) (32767 : Int)) l1)))) (mset M 440 47 (w32 ((w32 ((M 440 47) * (1103515245 : Int))) + (12345 : Int)))) K) : Wp d 248 0 [vR 440, vI l1] [] M K Q := by
  refine r_aload_n c248_0 rfl ?_
  refine r_aload_n c248_1 rfl ?_
  refine r_getIe c248_2 (oK hK o440) rfl ?_
  refine r_ldcw c248_5 ?_
  refine r_imul c248_8 ?_
  refine r_sipush c248_9 ?_
  refine r_iadd c248_12 ?_
  refine r_putI c248_13 (oK hK o440) ?_
  have x1 := FX.set (v := (w32 ((w32 ((M 440 47) * (1103515245 : Int))) + (12345 : Int)))) (a := 440) (k := 47) hX (by decide +kernel)
  refine r_aload_n c248_16 rfl ?_
  refine r_getIe c248_17 (oK hK o440) ms_eq ?_
  refine r_bipush c248_20 ?_
  refine r_ishr c248_22 ?_
  refine r_sipush c248_23 ?_
  refine r_iand c248_26 ?_
  refine r_iload_n c248_27 rfl ?_
  obtain ⟨s2, h⟩ := h
  refine r_irem c248_28 s2 ?_
  exact r_iret c248_29 (Or.inl rfl) h
section SU
variable {d : Nat} {M : Mem} {K : KK} {Q : RR → Mem → KK → Prop}
theorem g81z {b : Int} (hK : K.1 = 923) (hX : FX M) (_ : True) (k : ∀ M', FX M' → ((∀ a j, ¬ (a = 147 ∧ j = 1) → M' a j = M a j) ∧ M' 147 1 = seedN (M 147 1)) → Q (.inl (some (vI (drawN (M 147 1) b)))) M' K) : Wm d 81 [vR 147, vI b] M K Q := by
  have x := hX.set (a := 147) (k := 1) (v := seedN (M 147 1)) (by decide +kernel)
  have kk := k _ x ⟨fun a j h => by unfold mset; rw [if_neg h], ms_eq⟩
  unfold drawN at kk
  refine u81_0 hK hX ⟨fun h => ⟨by omega, ?_⟩, fun h => ?_⟩
  · rw [if_pos h] at kk; exact kk
  · rw [if_neg h] at kk; exact kk
theorem g248 {b : Int} (hK : K.1 = 923) (hX : FX M) (hb : 0 < b) (k : ∀ M', FX M' → ((∀ a j, ¬ (a = 440 ∧ j = 47) → M' a j = M a j) ∧ M' 440 47 = seedN (M 440 47)) → Q (.inl (some (vI (drawN (M 440 47) b)))) M' K) : Wm d 248 [vR 440, vI b] M K Q := by
  have x := hX.set (a := 440) (k := 47) (v := seedN (M 440 47)) (by decide +kernel)
  have kk := k _ x ⟨fun a j h => by unfold mset; rw [if_neg h], ms_eq⟩
  unfold drawN at kk
  rw [if_pos hb] at kk
  refine u248_0 hK hX ⟨by omega, ?_⟩
  rw [drawB_m]
  exact kk
end SU
