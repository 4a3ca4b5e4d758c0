theorem u114_0 {d : Nat} {l1 : Int} {M : Mem} {K : KK} {Q : RR → Mem → KK → Prop} (hK : K.1 = 923) (hX : FX M)  (h : ∃ b1 : Nat, (M 32 11) = (b1 : Int) ∧ isO 923 b1 0 = true ∧ (0 ≤ (M b1 6) ∧ (M b1 6) ≤ 12) ∧ ((0 ≤ l1 ∧ l1 < ((2 ^ ((M b1 6)).toNat : Nat) : Int)) → Wm d 52 [vR 134, vR b1, vR 40, vI l1] M K (Bk d 114 28 31 52 [vR 32, vI l1] [] Q)) ∧ (¬ (0 ≤ l1 ∧ l1 < ((2 ^ ((M b1 6)).toNat : Nat) : Int)) → Q (.inr 0) (mset M 32 19 (w32 ((M 32 19) + 1))) (K.1, K.2.1 + 1, K.2.2 + 6))) : Wp (d + 1) 114 0 [vR 32, vI l1] [] M K Q := by
  refine r_aload_n c114_0 rfl ?_
  refine r_iload_n c114_1 rfl ?_
  refine r_aload_n c114_2 rfl ?_
  obtain ⟨b1, h⟩ := h
  obtain ⟨e2, h⟩ := h
  obtain ⟨k3, h⟩ := h
  refine r_getR c114_3 (oK hK o32) e2 (by have := (isO_d k3).1; omega) ?_
  refine r_getIe c114_6 (oK hK k3) rfl ?_
  obtain ⟨p4, h⟩ := h
  refine r_call c114_9 rfl rfl (Nat.le_of_ble_eq_true rfl) (okc_s rfl rfl rfl) (g143 hK hX p4 (Bk_v ?_))
  refine r_call c114_12 rfl rfl (Nat.le_of_ble_eq_true rfl) (okc_r rfl rfl (oK hK o32)) (n136b hK hX (fun hc => Bk_n ?_) (fun hc => Bk_e rfl rfl rfl ?_))
  · replace h := h.1 hc
    refine r_aload_n c114_15 rfl ?_
    refine r_getR c114_16 (oK hK o32) (FX.get (b := 134) hX (by decide) (by decide +kernel) (by decide)) (by decide) ?_
    refine r_aload_n c114_19 rfl ?_
    refine r_getR c114_20 (oK hK o32) e2 (by have := (isO_d k3).1; omega) ?_
    refine r_aload_n c114_23 rfl ?_
    refine r_getR c114_24 (oK hK o32) (FX.get (b := 40) hX (by decide) (by decide +kernel) (by decide)) (by decide) ?_
    refine r_iload_n c114_27 rfl ?_
    exact r_call c114_28 rfl rfl (Nat.le_of_ble_eq_true rfl) (okc_r rfl rfl (oK hK o134)) h
  · replace h := h.2 hc
    exact h
theorem u114_31 {d : Nat} {l1 : Int} {t0 : Int} {M : Mem} {K : KK} {Q : RR → Mem → KK → Prop} (hK : K.1 = 923) (hX : FX M)  (h : Q (.inl (some (vI t0))) M K) : Wp (d + 1) 114 31 [vR 32, vI l1] [vI t0] M K Q := by
  exact r_iret c114_31 (Or.inl rfl) h
theorem u115_0 {d : Nat} {l1 : Int} {l2 : Int} {M : Mem} {K : KK} {Q : RR → Mem → KK → Prop} (hK : K.1 = 923) (hX : FX M)  (h : ∃ n1 : Nat, StN M n1 ∧ ((0 ≤ l2 ∧ l2 < (n1 : Int)) → ∃ b3 : Nat, (M 32 11) = (b3 : Int) ∧ isO 923 b3 0 = true ∧ (0 ≤ (M b3 6) ∧ (M b3 6) ≤ 12) ∧ ((0 ≤ l1 ∧ l1 < ((2 ^ ((M b3 6)).toNat : Nat) : Int)) → Wm (d + 1) 52 [vR 134, vR b3, vR 40, vI l1] M K (Bk (d + 1) 115 33 36 52 [vR 32, vI l1, vI l2] [] Q)) ∧ (¬ (0 ≤ l1 ∧ l1 < ((2 ^ ((M b3 6)).toNat : Nat) : Int)) → Q (.inr 0) (mset M 32 19 (w32 ((M 32 19) + 1))) (K.1, K.2.1 + 1, K.2.2 + 6))) ∧ (¬ (0 ≤ l2 ∧ l2 < (n1 : Int)) → Q (.inr 1) (mset M 32 18 (w32 ((M 32 18) + 1))) (K.1, K.2.1 + 1, K.2.2 + 6))) : Wp (d + 2) 115 0 [vR 32, vI l1, vI l2] [] M K Q := by
  refine r_aload_n c115_0 rfl ?_
  refine r_iload_n c115_1 rfl ?_
  obtain ⟨n1, h⟩ := h
  obtain ⟨p2, h⟩ := h
  refine r_call c115_2 rfl rfl (Nat.le_of_ble_eq_true rfl) (okc_r rfl rfl (oK hK o32)) (n138 hK hX p2 (fun hc => Bk_n ?_) (fun hc => Bk_e rfl rfl rfl ?_))
  · replace h := h.1 hc
    refine r_aload_n c115_5 rfl ?_
    refine r_iload_n c115_6 rfl ?_
    refine r_aload_n c115_7 rfl ?_
    obtain ⟨b3, h⟩ := h
    obtain ⟨e4, h⟩ := h
    obtain ⟨k5, h⟩ := h
    refine r_getR c115_8 (oK hK o32) e4 (by have := (isO_d k5).1; omega) ?_
    refine r_getIe c115_11 (oK hK k5) rfl ?_
    obtain ⟨p6, h⟩ := h
    refine r_call c115_14 rfl rfl (Nat.le_of_ble_eq_true rfl) (okc_s rfl rfl rfl) (g143 hK hX p6 (Bk_v ?_))
    refine r_call c115_17 rfl rfl (Nat.le_of_ble_eq_true rfl) (okc_r rfl rfl (oK hK o32)) (n136b hK hX (fun hc => Bk_n ?_) (fun hc => Bk_e rfl rfl rfl ?_))
    · replace h := h.1 hc
      refine r_aload_n c115_20 rfl ?_
      refine r_getR c115_21 (oK hK o32) (FX.get (b := 134) hX (by decide) (by decide +kernel) (by decide)) (by decide) ?_
      refine r_aload_n c115_24 rfl ?_
      refine r_getR c115_25 (oK hK o32) e4 (by have := (isO_d k5).1; omega) ?_
      refine r_aload_n c115_28 rfl ?_
      refine r_getR c115_29 (oK hK o32) (FX.get (b := 40) hX (by decide) (by decide +kernel) (by decide)) (by decide) ?_
      refine r_iload_n c115_32 rfl ?_
      exact r_call c115_33 rfl rfl (Nat.le_of_ble_eq_true rfl) (okc_r rfl rfl (oK hK o134)) h
    · replace h := h.2 hc
      exact h
  · replace h := h.2 hc
    exact h
theorem u115_36 {d : Nat} {l1 : Int} {l2 : Int} {t0 : Int} {M : Mem} {K : KK} {Q : RR → Mem → KK → Prop} (hK : K.1 = 923) (hX : FX M)  (h : (0 ≤ l2 ∧ l2 < (6 : Int)) ∧ Q (.inl (some (vI (M 138 (Int.toNat l2))))) M K) : Wp (d + 2) 115 36 [vR 32, vI l1, vI l2] [vI t0] M K Q := by
  refine r_popi c115_36 ?_
  refine r_aload_n c115_37 rfl ?_
  refine r_getR c115_38 (oK hK o32) (FX.get (b := 134) hX (by decide) (by decide +kernel) (by decide)) (by decide) ?_
  refine r_getR c115_41 (oK hK o134) (FX.get (b := 138) hX (by decide) (by decide +kernel) (by decide)) (by decide) ?_
  refine r_iload_n c115_44 rfl ?_
  obtain ⟨s1, h⟩ := h
  refine r_iae c115_45 (oK hK o138) (bd l138 s1) rfl ?_
  exact r_iret c115_46 (Or.inl rfl) h
theorem u220_0 {d : Nat} {l1 : Int} {M : Mem} {K : KK} {Q : RR → Mem → KK → Prop} (hK : K.1 = 923) (hX : FX M)  (h : ∃ n2 : Nat, StM (mset M 440 0 (0 : Int)) n2 ∧ ((0 ≤ l1 ∧ l1 < ((2 ^ n2 : Nat) : Int)) → Wm (d + 1) 219 [vR 440, vI l1] (mset M 440 0 (0 : Int)) K (Bk (d + 1) 220 31 34 219 [vR 440, vI l1] [] Q)) ∧ (¬ (0 ≤ l1 ∧ l1 < ((2 ^ n2 : Nat) : Int)) → (∀ (M7 : Mem), FX M7 → BadM 1 1 (mset M 440 0 (0 : Int)) M7 → Q (.inl (some (vI (0 : Int)))) M7 K))) : Wp (d + 2) 220 0 [vR 440, vI l1] [] M K Q := by
  refine r_aload_n c220_0 rfl ?_
  refine r_iconst c220_1 ?_
  refine r_putI c220_2 (oK hK o440) ?_
  have x1 := FX.set (v := (0 : Int)) (a := 440) (k := 0) hX (by decide +kernel)
  refine r_aload_n c220_5 rfl ?_
  refine r_aload_n c220_6 rfl ?_
  refine r_iload_n c220_7 rfl ?_
  obtain ⟨n2, h⟩ := h
  obtain ⟨p3, h⟩ := h
  refine r_call c220_8 rfl rfl (Nat.le_of_ble_eq_true rfl) (okc_r rfl rfl (oK hK o440)) (g209 hK x1 p3 (Bk_v ?_))
  refine r_ifP (P := (0 ≤ l1 ∧ l1 < ((2 ^ n2 : Nat) : Int))) c220_11 bI_ne (fun hc4 => ?_) (fun hc4 => ?_)
  · replace h := h.1 hc4
    refine r_iconst c220_18 ?_
    refine r_iconst c220_19 ?_
    refine r_iconst c220_20 ?_
    refine r_call c220_21 rfl rfl (Nat.le_of_ble_eq_true rfl) (okc_r rfl rfl (oK hK o440)) (b152_0 hK x1 ms_eq (Bk_v ?_))
    refine r_ifP (P := (0 : Int) = (0 : Int)) c220_24 rfl (fun hc => ?_) (fun hc => absurd (by decide) hc)
    refine r_aload_n c220_29 rfl ?_
    refine r_iload_n c220_30 rfl ?_
    exact r_call c220_31 rfl rfl (Nat.le_of_ble_eq_true rfl) (okc_r rfl rfl (oK hK o440)) h
  · replace h := h.2 hc4
    refine r_iconst c220_14 ?_
    refine r_goto c220_15 ?_
    refine r_iconst c220_19 ?_
    refine r_iconst c220_20 ?_
    refine r_call c220_21 rfl rfl (Nat.le_of_ble_eq_true rfl) (okc_r rfl rfl (oK hK o440)) (b152_1 (cd := 1) (ix := 1) hK x1 ms_eq (by decide) (by decide) (fun M7 x5 p6 => Bk_v ?_))
    replace h := h M7 x5 p6
    refine r_ifP (P := (1 : Int) = (0 : Int)) c220_24 rfl (fun hc => absurd hc (by decide)) (fun hc => ?_)
    refine r_iconst c220_27 ?_
    exact r_iret c220_28 (Or.inl rfl) h
theorem u220_34 {d : Nat} {l1 : Int} {M : Mem} {K : KK} {Q : RR → Mem → KK → Prop} (hK : K.1 = 923) (hX : FX M)  (h : Q (.inl (some (vI (M 440 45)))) M K) : Wp (d + 2) 220 34 [vR 440, vI l1] [] M K Q := by
  refine r_aload_n c220_34 rfl ?_
  refine r_getIe c220_35 (oK hK o440) rfl ?_
  exact r_iret c220_38 (Or.inl rfl) h
theorem u221_0 {d : Nat} {l1 : Int} {l2 : Int} {M : Mem} {K : KK} {Q : RR → Mem → KK → Prop} (hK : K.1 = 923) (hX : FX M)  (h : ∃ n2 : Nat, StM (mset M 440 0 (0 : Int)) n2 ∧ ((0 ≤ l2 ∧ l2 < (n2 : Int)) → ∃ n5 : Nat, StM (mset M 440 0 (0 : Int)) n5 ∧ ((0 ≤ l1 ∧ l1 < ((2 ^ n5 : Nat) : Int)) → Wm (d + 1) 219 [vR 440, vI l1] (mset M 440 0 (0 : Int)) K (Bk (d + 1) 221 53 56 219 [vR 440, vI l1, vI l2] [] Q)) ∧ (¬ (0 ≤ l1 ∧ l1 < ((2 ^ n5 : Nat) : Int)) → (∀ (M10 : Mem), FX M10 → BadM 2 1 (mset M 440 0 (0 : Int)) M10 → Q (.inl (some (vI (0 : Int)))) M10 K))) ∧ (¬ (0 ≤ l2 ∧ l2 < (n2 : Int)) → (∀ (M13 : Mem), FX M13 → BadM 1 0 (mset M 440 0 (0 : Int)) M13 → Q (.inl (some (vI (0 : Int)))) M13 K))) : Wp (d + 2) 221 0 [vR 440, vI l1, vI l2] [] M K Q := by
  refine r_aload_n c221_0 rfl ?_
  refine r_iconst c221_1 ?_
  refine r_putI c221_2 (oK hK o440) ?_
  have x1 := FX.set (v := (0 : Int)) (a := 440) (k := 0) hX (by decide +kernel)
  refine r_aload_n c221_5 rfl ?_
  refine r_aload_n c221_6 rfl ?_
  refine r_iload_n c221_7 rfl ?_
  obtain ⟨n2, h⟩ := h
  obtain ⟨p3, h⟩ := h
  refine r_call c221_8 rfl rfl (Nat.le_of_ble_eq_true rfl) (okc_r rfl rfl (oK hK o440)) (g208 hK x1 p3 (Bk_v ?_))
  refine r_ifP (P := (0 ≤ l2 ∧ l2 < (n2 : Int))) c221_11 bI_ne (fun hc4 => ?_) (fun hc4 => ?_)
  · replace h := h.1 hc4
    refine r_iconst c221_18 ?_
    refine r_iconst c221_19 ?_
    refine r_iconst c221_20 ?_
    refine r_call c221_21 rfl rfl (Nat.le_of_ble_eq_true rfl) (okc_r rfl rfl (oK hK o440)) (b152_0 hK x1 ms_eq (Bk_v ?_))
    refine r_ifP (P := ¬ (0 : Int) = (0 : Int)) c221_24 rfl (fun hc => absurd hc (by decide)) (fun hc => ?_)
    refine r_aload_n c221_27 rfl ?_
    refine r_aload_n c221_28 rfl ?_
    refine r_iload_n c221_29 rfl ?_
    obtain ⟨n5, h⟩ := h
    obtain ⟨p6, h⟩ := h
    refine r_call c221_30 rfl rfl (Nat.le_of_ble_eq_true rfl) (okc_r rfl rfl (oK hK o440)) (g209 hK x1 p6 (Bk_v ?_))
    refine r_ifP (P := (0 ≤ l1 ∧ l1 < ((2 ^ n5 : Nat) : Int))) c221_33 bI_ne (fun hc7 => ?_) (fun hc7 => ?_)
    · replace h := h.1 hc7
      refine r_iconst c221_40 ?_
      refine r_iconst c221_41 ?_
      refine r_iconst c221_42 ?_
      refine r_call c221_43 rfl rfl (Nat.le_of_ble_eq_true rfl) (okc_r rfl rfl (oK hK o440)) (b152_0 hK x1 ms_eq (Bk_v ?_))
      refine r_ifP (P := (0 : Int) = (0 : Int)) c221_46 rfl (fun hc => ?_) (fun hc => absurd (by decide) hc)
      refine r_aload_n c221_51 rfl ?_
      refine r_iload_n c221_52 rfl ?_
      exact r_call c221_53 rfl rfl (Nat.le_of_ble_eq_true rfl) (okc_r rfl rfl (oK hK o440)) h
    · replace h := h.2 hc7
      refine r_iconst c221_36 ?_
      refine r_goto c221_37 ?_
      refine r_iconst c221_41 ?_
      refine r_iconst c221_42 ?_
      refine r_call c221_43 rfl rfl (Nat.le_of_ble_eq_true rfl) (okc_r rfl rfl (oK hK o440)) (b152_1 (cd := 2) (ix := 1) hK x1 ms_eq (by decide) (by decide) (fun M10 x8 p9 => Bk_v ?_))
      replace h := h M10 x8 p9
      refine r_ifP (P := (1 : Int) = (0 : Int)) c221_46 rfl (fun hc => absurd hc (by decide)) (fun hc => ?_)
      refine r_iconst c221_49 ?_
      exact r_iret c221_50 (Or.inl rfl) h
  · replace h := h.2 hc4
    refine r_iconst c221_14 ?_
    refine r_goto c221_15 ?_
    refine r_iconst c221_19 ?_
    refine r_iconst c221_20 ?_
    refine r_call c221_21 rfl rfl (Nat.le_of_ble_eq_true rfl) (okc_r rfl rfl (oK hK o440)) (b152_1 (cd := 1) (ix := 0) hK x1 ms_eq (by decide) (by decide) (fun M13 x11 p12 => Bk_v ?_))
    replace h := h M13 x11 p12
    refine r_ifP (P := ¬ (1 : Int) = (0 : Int)) c221_24 rfl (fun hc => ?_) (fun hc => absurd (by decide) hc)
    refine r_iconst c221_49 ?_
    exact r_iret c221_50 (Or.inl rfl) h
theorem u221_56 {d : Nat} {l1 : Int} {l2 : Int} {M : Mem} {K : KK} {Q : RR → Mem → KK → Prop} (hK : K.1 = 923) (hX : FX M)  (h : (0 ≤ l2 ∧ l2 < (6 : Int)) ∧ Q (.inl (some (vI (M 912 (Int.toNat l2))))) M K) : Wp (d + 2) 221 56 [vR 440, vI l1, vI l2] [] M K Q := by
  refine r_aload_n c221_56 rfl ?_
  refine r_getR c221_57 (oK hK o440) (FX.get (b := 912) hX (by decide) (by decide +kernel) (by decide)) (by decide) ?_
  refine r_iload_n c221_60 rfl ?_
  obtain ⟨s1, h⟩ := h
  refine r_iae c221_61 (oK hK o912) (bd l912 s1) rfl ?_
  exact r_iret c221_62 (Or.inl rfl) h
/-! the questions pack and packed -/
section OPP
variable {d : Nat} {M M' : Mem} {K : KK} {Q : RR → Mem → KK → Prop} {c s : Mem} {L : LC}
theorem g219 {T : Nat} (hK : K.1 = 923) (hX : FX M) (hG : GM M c L s) (hT : T < 2 ^ nSt c) (k : ∀ M', FX M' → FrQm M M' → M' 440 0 = M 440 0 → M' 440 45 = pkV c s L T 0 0 → (∀ i, i < nSt c → M' 912 i = pkX c s L T i (pkF c s L T 0 0 i)) → Q (.inl none) M' K) : Wm (d + 12) 219 [vR 440, vI (T : Int)] M K Q := by
  have hw := hG.1.2.1
  have hlw := hG.1.2.2.2.1
  have hN := hw.n.1.2
  have hC := hw.n.2.1.2
  have hT6 : T < 64 := by
    have h6 : 2 ^ nSt c ≤ 2 ^ 6 := Nat.pow_le_pow_right (by decide) hN
    have e : 2 ^ 6 = 64 := by decide
    omega
  have hn := hG.n
  refine u219_0 hK hX ⟨by omega, ?_⟩
  rw [hn, Int.toNat_natCast, w32_id (by omega)]
  have frm : ∀ M1, (∀ a k, a ≠ 805 → a ≠ 806 → a ≠ 913 → ¬ (a = 440 ∧ k = 45) → M1 a k = M a k) → FrQm M M1 := fun M1 f1 a k hs => f1 a k (by unfold scM at hs; omega) (by unfold scM at hs; omega) (by unfold scM at hs; omega) (by unfold scM at hs; omega)
  have rows : ∀ f p, p = f → p ≤ nSt c → ∀ (v v' : PV) M1, FX M1 → (∀ a k, a ≠ 805 → a ≠ 806 → a ≠ 913 → ¬ (a = 440 ∧ k = 45) → M1 a k = M a k) → M1 440 45 = -1 → (∀ i, p ≤ i → i ≤ nSt c → M1 913 i = rsP c s L T i) → Wp (d + 12) 219 26 [vR 440, vI (T : Int), vI ((p : Int) - 1), v, v'] [] M1 K Q := by
    intro f
    induction f with
    | zero =>
      intro p hp hpN v v' M1 x1 f1 hm hR
      subst hp
      refine u219_26 hK x1 ⟨fun _ => ?_, fun h => absurd (by omega) h⟩
      refine g218 hT6 (nSt c) 0 (by omega) (d + 11) M1 K _ 0 0 (by omega) hK x1 (hG.q (frm M1 f1)) (fun i h1 h2 => hR i h1 h2) (by omega) (Nat.pow_pos (by decide)) (by omega) (fun M2 x2 f2 hE => Bk_n (u219_111 hK x2 ?_))
      have v0 := pkV_rg (L := L) (T := T) (p := 0) (S := 0) hlw hN
      obtain ⟨a1, a2, a3⟩ := hE.1 (by omega)
      refine k M2 x2 ((frm M1 f1).tr f2.q) ((f2 440 0 (by decide) (by decide) (by decide) (by omega) (by omega)).trans (f1 440 0 (by decide) (by decide) (by decide) (by omega))) (by rw [a1]; omega) (fun i hi => a3 i (by omega) hi)
    | succ f ih =>
      intro p hp hpN v v' M1 x1 f1 hm hR
      obtain ⟨q, rfl⟩ : ∃ q, p = q + 1 := ⟨p - 1, by omega⟩
      have eq1 : ((q + 1 : Nat) : Int) - 1 = (q : Int) := by omega
      rw [eq1]
      have hqN : q < nSt c := by omega
      have hy := hw.y hqN
      have hy2 : c 2 q = (yN c q : Int) := by unfold yN; omega
      refine u219_26 hK x1 ⟨fun h => absurd h (by omega), fun _ => ?_⟩
      have facts : ∀ M2 : Mem, (∀ a k, a ≠ 805 → a ≠ 806 → a ≠ 913 → ¬ (a = 440 ∧ k = 45) → M2 a k = M a k) → M2 444 0 = (nCe c : Int) ∧ M2 (459 + q) 0 = (yN c q : Int) := by
        intro M2 f2
        have g1 := hG.q (frm M2 f2)
        refine ⟨g1.cen.1, ?_⟩
        have := (g1.1.1.2.2.1 q (by have := hw.n.1.1; omega)).1
        rw [this, hy2]
      have fin : ∀ x M2, FX M2 → (∀ a k, a ≠ 805 → a ≠ 806 → a ≠ 913 → ¬ (a = 440 ∧ k = 45) → M2 a k = M a k) → M2 440 45 = -1 → (∀ i, q + 1 ≤ i → i ≤ nSt c → M2 913 i = rsP c s L T i) → pkM c s L T q 13 = pkM c s L T q x → ∀ xi : Int, (0 ≤ w32 ((q : Int) + 1) ∧ w32 ((q : Int) + 1) < 7) ∧ (0 ≤ (q : Int) ∧ (q : Int) < 7) ∧ Wp (d + 12) 219 26 [vR 440, vI (T : Int), vI (w32 ((q : Int) + (-1))), vI (pkM c s L T q x), vI xi] [] (mset M2 913 (Int.toNat (q : Int)) (w32 (M2 913 (Int.toNat (w32 ((q : Int) + 1))) + pkM c s L T q x))) K Q := by
        intro x M2 x2 f2 hm2 hR2 hst xi
        have r1 := rsP_rg (L := L) (T := T) (p := q + 1) hlw hN
        have r2 := pkM_rg (L := L) (T := T) hlw hqN x
        rw [w1 (by omega), Int.toNat_natCast, Int.toNat_natCast, hR2 (q + 1) (by omega) (by omega), w32_id (z := rsP c s L T (q + 1) + _) (by omega), ← hst, ← rsP_s hqN, w32_id (z := (q : Int) + -1) (by omega), show (q : Int) + -1 = (q : Int) - 1 by omega]
        refine ⟨by omega, by omega, ih q (by omega) (by omega) _ _ _ (x2.set (nfa pm_o.2.2.1 _)) (fun a k h1 h2 h3 h4 => (ms_na h3).trans (f2 a k h1 h2 h3 h4)) ((ms_na (by decide)).trans hm2) (fun i h1 h2 => ?_)⟩
        by_cases hiq : i = q
        · subst hiq; rw [ms_eq]
        · rw [ms_nk hiq]; exact hR2 i (by omega) h2
      have loop : ∀ f x, x + f = nCe c + 1 - yN c q → ∀ M2, FX M2 → (∀ a k, a ≠ 805 → a ≠ 806 → a ≠ 913 → ¬ (a = 440 ∧ k = 45) → M2 a k = M a k) → M2 440 45 = -1 → (∀ i, q + 1 ≤ i → i ≤ nSt c → M2 913 i = rsP c s L T i) → (T.testBit q = false → x = 0) → Wp (d + 12) 219 35 [vR 440, vI (T : Int), vI (q : Int), vI (pkM c s L T q x), vI (x : Int)] [] M2 K Q := by
        intro f
        induction f with
        | zero =>
          intro x hx M2 x2 f2 hm2 hR2 _
          obtain ⟨q0, q1⟩ := facts M2 f2
          have hst := pkM_stop (c := c) (s := s) (L := L) (T := T) (p := q) (k := x) (Or.inl (by omega)) (13 - x)
          rw [show x + (13 - x) = 13 by omega] at hst
          refine u219_35 hK x2 ⟨by omega, fun _ => fin x M2 x2 f2 hm2 hR2 hst _, fun h9 => absurd ?_ h9⟩
          rw [q0, Int.toNat_natCast, q1, w32_id (by omega)]; omega
        | succ f ihf =>
          intro x hx M2 x2 f2 hm2 hR2 hT0
          obtain ⟨q0, q1⟩ := facts M2 f2
          have hx' : x + yN c q ≤ nCe c := by omega
          refine u219_35 hK x2 ⟨by omega, fun h9 => absurd h9 ?_, fun _ => ?_⟩
          · rw [q0, Int.toNat_natCast, q1, w32_id (by omega)]; omega
          rw [bit_1 (by omega) (by omega)]
          refine ⟨fun h9 => ?_, fun hTb => ?_⟩
          · have hTf : T.testBit q = false := by cases hq : T.testBit q with
              | false => rfl
              | true => exact absurd hq h9
            have hst := pkM_stop (c := c) (s := s) (L := L) (T := T) (p := q) (k := x) (Or.inr hTf) (13 - x)
            rw [show x + (13 - x) = 13 by omega] at hst
            exact fin x M2 x2 f2 hm2 hR2 hst _
          · refine g217 hK x2 (hG.q (frm M2 f2)) hqN hx' (fun M3 x3 f3 => Bk_v (u219_71 hK x3 ?_))
            have nx := ihf (x + 1) (by omega) M3 x3 (fun a k h1 h2 h3 h4 => (f3 a k h1 h2).trans (f2 a k h1 h2 h3 h4)) ((f3 _ _ (by decide) (by decide)).trans hm2) (fun i h1 h2 => (f3 _ _ (by decide) (by decide)).trans (hR2 i h1 h2)) (fun h8 => by rw [hTb] at h8; exact absurd h8 (by decide))
            simp only [pkM] at nx
            rw [if_pos ⟨hTb, hx'⟩] at nx
            rw [w1 (by omega)]
            exact nx
      exact loop (nCe c + 1 - yN c q) 0 (Nat.zero_add _) M1 x1 f1 hm (fun i h1 h2 => hR i h1 h2) (fun _ => rfl)
  refine rows (nSt c) (nSt c) rfl (Nat.le_refl _) vU vU _ ((hX.set nf440_45).set (nfa pm_o.2.2.1 _)) (fun a k h1 h2 h3 h4 => ?_) ?_ (fun i h1 h2 => ?_)
  · rw [ms_na h3]; unfold mset; rw [if_neg h4]
  · rw [ms_na (by decide), ms_eq]
  · have : i = nSt c := by omega
    subst this
    rw [ms_eq, rsP_N]
theorem c114 {v : Int} (hK : K.1 = 923) (hX : FX M) (h : GC M c L s) (kb : ¬ (0 ≤ v ∧ v < ((2 ^ nSt c : Nat) : Int)) → Q (.inr 0) (inc M 19) (K9 K)) (k : (0 ≤ v ∧ v < ((2 ^ nSt c : Nat) : Int)) → ∀ M', FX M' → FrQc M M' → Q (.inl (some (vI (pkV c s L v.toNat 0 0)))) M' K) : Wm (d + 5) 114 [vR 32, vI v] M K Q := by
  obtain ⟨cm, l, a, b, e, f⟩ := h
  have hy := e.yc
  refine u114_0 hK hX ⟨cm, a, b, ?_⟩
  rw [hy.2.1, Int.toNat_natCast]
  refine ⟨by have := hy.2.2.2.1; omega, fun hv => ?_, kb⟩
  have g := g52 (d := d) (T := v.toNat) (Q := Bk (d + 4) 114 28 31 52 [vR 32, vI v] [] Q) hK hX b (by decide +kernel) (by omega) e f (by omega) (fun M1 x1 f1 _ => Bk_v (u114_31 hK x1 (k hv M1 x1 f1.qc)))
  rw [Int.toNat_of_nonneg hv.1] at g; exact g
theorem c115 {v w : Int} (hK : K.1 = 923) (hX : FX M) (h : GC M c L s) (kn : ¬ (0 ≤ w ∧ w < (nSt c : Int)) → Q (.inr 1) (inc M 18) (K9 K)) (kb : (0 ≤ w ∧ w < (nSt c : Int)) → ¬ (0 ≤ v ∧ v < ((2 ^ nSt c : Nat) : Int)) → Q (.inr 0) (inc M 19) (K9 K)) (k : (0 ≤ w ∧ w < (nSt c : Int)) → (0 ≤ v ∧ v < ((2 ^ nSt c : Nat) : Int)) → ∀ M', FX M' → FrQc M M' → Q (.inl (some (vI (pkX c s L v.toNat w.toNat (pkF c s L v.toNat 0 0 w.toNat))))) M' K) : Wm (d + 5) 115 [vR 32, vI v, vI w] M K Q := by
  have hst := h.stn
  obtain ⟨cm, l, a, b, e, f⟩ := h
  have hy := e.yc
  have hN := hy.2.2.2.1
  refine u115_0 hK hX ⟨nSt c, hst, fun hw => ⟨cm, a, b, ?_⟩, kn⟩
  rw [hy.2.1, Int.toNat_natCast]
  refine ⟨by omega, fun hv => ?_, kb hw⟩
  have g := g52 (d := d) (T := v.toNat) (Q := Bk (d + 4) 115 33 36 52 [vR 32, vI v, vI w] [] Q) hK hX b (by decide +kernel) (by omega) e f (by omega) (fun M1 x1 f1 hg => Bk_v (u115_36 hK x1 ⟨by omega, by rw [hg w.toNat (by omega)]; exact k hw hv M1 x1 f1.qc⟩))
  rw [Int.toNat_of_nonneg hv.1] at g; exact g
theorem m220 {v : Int} (hK : K.1 = 923) (hX : FX M) (h : GM M c L s) (kb : ¬ (0 ≤ v ∧ v < ((2 ^ nSt c : Nat) : Int)) → ∀ M', FX M' → BadM 1 1 M M' → Q (.inl (some (vI 0))) M' K) (k : (0 ≤ v ∧ v < ((2 ^ nSt c : Nat) : Int)) → ∀ M', FX M' → FrQm M M' → M' 440 0 = 0 → Q (.inl (some (vI (pkV c s L v.toNat 0 0)))) M' K) : Wm (d + 13) 220 [vR 440, vI v] M K Q := by
  refine u220_0 hK hX ⟨nSt c, h.stn.t0, fun hv => ?_, fun hv M1 x1 b1 => kb hv M1 x1 (BadM.of FrQm.t0 b1 (by decide))⟩
  have g := g219 (d := d) (T := v.toNat) (Q := Bk (d + 12) 220 31 34 219 [vR 440, vI v] [] Q) hK hX.t0 (h.q FrQm.t0) (by omega) (fun M1 x1 f1 z1 e1 _ => Bk_n (u220_34 hK x1 (by rw [e1]; exact k hv M1 x1 (FrQm.t0.tr f1) (z1.trans ms_eq))))
  rw [Int.toNat_of_nonneg hv.1] at g; exact g
theorem m221 {v w : Int} (hK : K.1 = 923) (hX : FX M) (h : GM M c L s) (kn : ¬ (0 ≤ w ∧ w < (nSt c : Int)) → ∀ M', FX M' → BadM 1 0 M M' → Q (.inl (some (vI 0))) M' K) (kb : (0 ≤ w ∧ w < (nSt c : Int)) → ¬ (0 ≤ v ∧ v < ((2 ^ nSt c : Nat) : Int)) → ∀ M', FX M' → BadM 2 1 M M' → Q (.inl (some (vI 0))) M' K) (k : (0 ≤ w ∧ w < (nSt c : Int)) → (0 ≤ v ∧ v < ((2 ^ nSt c : Nat) : Int)) → ∀ M', FX M' → FrQm M M' → M' 440 0 = 0 → Q (.inl (some (vI (pkX c s L v.toNat w.toNat (pkF c s L v.toNat 0 0 w.toNat))))) M' K) : Wm (d + 13) 221 [vR 440, vI v, vI w] M K Q := by
  have hN := h.stn.2
  refine u221_0 hK hX ⟨nSt c, h.stn.t0, fun hw => ⟨nSt c, h.stn.t0, fun hv => ?_, fun hv M1 x1 b1 => kb hw hv M1 x1 (BadM.of FrQm.t0 b1 (by decide))⟩, fun hw M1 x1 b1 => kn hw M1 x1 (BadM.of FrQm.t0 b1 (by decide))⟩
  have g := g219 (d := d) (T := v.toNat) (Q := Bk (d + 12) 221 53 56 219 [vR 440, vI v, vI w] [] Q) hK hX.t0 (h.q FrQm.t0) (by omega) (fun M1 x1 f1 z1 _ e1 => Bk_n (u221_56 hK x1 ⟨by omega, by rw [e1 w.toNat (by omega)]; exact k hw hv M1 x1 (FrQm.t0.tr f1) (z1.trans ms_eq)⟩))
  rw [Int.toNat_of_nonneg hv.1] at g; exact g
end OPP
