/-! rows copied, a room begun anew: the model -/
theorem u178_0 {d : Nat} {l0 : Nat} {l1 : Nat} {M : Mem} {K : KK} {Q : RR → Mem → KK → Prop} (hK : K.1 = 922) (hX : FX M)  (h : Wp d 178 2 [vR l0, vR l1, vI (0 : Int)] [] M K Q) : Wp d 178 0 [vR l0, vR l1, vU] [] M K Q := by
  refine r_iconst c178_0 ?_
  refine r_istore_n c178_1 (Nat.le_of_ble_eq_true rfl) ?_
  exact h
theorem u178_2 {d : Nat} {l0 : Nat} {l1 : Nat} {l2 : Int} {M : Mem} {K : KK} {Q : RR → Mem → KK → Prop} (hK : K.1 = 922) (hX : FX M)  (h : ((27 : Int) ≤ l2 → Q (.inl none) M K) ∧ (¬ ((27 : Int) ≤ l2) → isO 922 l0 20 = true ∧ (0 ≤ l2 ∧ l2 < (ln l0 : Int)) ∧ isO 922 l1 20 = true ∧ (0 ≤ l2 ∧ l2 < (ln l1 : Int)) ∧ Wp d 178 2 [vR l0, vR l1, vI (w32 (l2 + 1))] [] (mset M l1 (Int.toNat l2) (M l0 (Int.toNat l2))) K Q)) : Wp d 178 2 [vR l0, vR l1, vI l2] [] M K Q := by
  refine r_iload_n c178_2 rfl ?_
  refine r_bipush c178_3 ?_
  refine r_icmpP (P := (27 : Int) ≤ l2) c178_5 rfl (fun hc1 => ?_) (fun hc1 => ?_)
  · replace h := h.1 hc1
    exact r_ret c178_20 h
  · replace h := h.2 hc1
    refine r_aload_n c178_8 rfl ?_
    refine r_iload_n c178_9 rfl ?_
    refine r_aload_n c178_10 rfl ?_
    refine r_iload_n c178_11 rfl ?_
    obtain ⟨o2, h⟩ := h
    obtain ⟨s3, h⟩ := h
    refine r_iae c178_12 (oK hK o2) s3 rfl ?_
    obtain ⟨o4, h⟩ := h
    obtain ⟨s5, h⟩ := h
    refine r_ias c178_13 (oK hK o4) s5 ?_
    have x6 := FX.set (v := (M l0 (Int.toNat l2))) (a := l1) (k := (Int.toNat l2)) hX (nfa o4 _)
    refine r_iinc c178_14 rfl ?_
    refine r_goto c178_17 ?_
    exact h
theorem u177_0 {d : Nat} {l0 : Nat} {l1 : Nat} {l2 : Int} {M : Mem} {K : KK} {Q : RR → Mem → KK → Prop} (hK : K.1 = 922) (hX : FX M)  (h : Wp d 177 2 [vR l0, vR l1, vI l2, vI (0 : Int), vU] [] M K Q) : Wp d 177 0 [vR l0, vR l1, vI l2, vU, vU] [] M K Q := by
  refine r_iconst c177_0 ?_
  refine r_istore_n c177_1 (Nat.le_of_ble_eq_true rfl) ?_
  exact h
theorem u177_2 {d : Nat} {l0 : Nat} {l1 : Nat} {l2 : Int} {l3 : Int} {l4 : PV} {M : Mem} {K : KK} {Q : RR → Mem → KK → Prop} (hK : K.1 = 922) (hX : FX M)  (h : (l2 ≤ l3 → Q (.inl none) M K) ∧ (¬ (l2 ≤ l3) → Wp d 177 10 [vR l0, vR l1, vI l2, vI l3, vI (0 : Int)] [] M K Q)) : Wp d 177 2 [vR l0, vR l1, vI l2, vI l3, l4] [] M K Q := by
  refine r_iload_n c177_2 rfl ?_
  refine r_iload_n c177_3 rfl ?_
  refine r_icmpP (P := l2 ≤ l3) c177_4 rfl (fun hc1 => ?_) (fun hc1 => ?_)
  · replace h := h.1 hc1
    exact r_ret c177_43 h
  · replace h := h.2 hc1
    refine r_iconst c177_7 ?_
    refine r_istore c177_8 (Nat.le_of_ble_eq_true rfl) ?_
    exact h
theorem u177_10 {d : Nat} {l0 : Nat} {l1 : Nat} {l2 : Int} {l3 : Int} {l4 : Int} {M : Mem} {K : KK} {Q : RR → Mem → KK → Prop} (hK : K.1 = 922) (hX : FX M)  (h : (Nat.ble 30 (tg l1) = true ∧ isO K.1 l1 (tg l1) = true) ∧ (0 ≤ l3 ∧ l3 < (ln l1 : Int)) ∧ ∃ b3 : Nat, M l1 (Int.toNat l3) = (b3 : Int) ∧ isO 922 b3 20 = true ∧ (Nat.ble 20 (tg b3) = true ∧ isO K.1 b3 (tg b3) = true) ∧ ((ln b3 : Int) ≤ l4 → Wp d 177 2 [vR l0, vR l1, vI l2, vI (w32 (l3 + 1)), vI l4] [] M K Q) ∧ (¬ ((ln b3 : Int) ≤ l4) → (Nat.ble 30 (tg l1) = true ∧ isO K.1 l1 (tg l1) = true) ∧ (0 ≤ l3 ∧ l3 < (ln l1 : Int)) ∧ ∃ b10 : Nat, M l1 (Int.toNat l3) = (b10 : Int) ∧ isO 922 b10 20 = true ∧ (Nat.ble 30 (tg l0) = true ∧ isO K.1 l0 (tg l0) = true) ∧ (0 ≤ l3 ∧ l3 < (ln l0 : Int)) ∧ ∃ b15 : Nat, M l0 (Int.toNat l3) = (b15 : Int) ∧ isO 922 b15 20 = true ∧ (0 ≤ l4 ∧ l4 < (ln b15 : Int)) ∧ (0 ≤ l4 ∧ l4 < (ln b10 : Int)) ∧ Wp d 177 10 [vR l0, vR l1, vI l2, vI l3, vI (w32 (l4 + 1))] [] (mset M b10 (Int.toNat l4) (M b15 (Int.toNat l4))) K Q)) : Wp d 177 10 [vR l0, vR l1, vI l2, vI l3, vI l4] [] M K Q := by
  refine r_iload c177_10 rfl ?_
  refine r_aload_n c177_12 rfl ?_
  refine r_iload_n c177_13 rfl ?_
  obtain ⟨s1, h⟩ := h
  obtain ⟨s2, h⟩ := h
  obtain ⟨b3, h⟩ := h
  obtain ⟨s4, h⟩ := h
  obtain ⟨s5, h⟩ := h
  refine r_aa c177_14 s1 s2 s4 (by have := (isO_d s5).1; omega) ?_
  obtain ⟨s6, h⟩ := h
  refine r_alen c177_15 s6 ?_
  refine r_icmpP (P := (ln b3 : Int) ≤ l4) c177_16 rfl (fun hc7 => ?_) (fun hc7 => ?_)
  · replace h := h.1 hc7
    refine r_iinc c177_37 rfl ?_
    refine r_goto c177_40 ?_
    exact h
  · replace h := h.2 hc7
    refine r_aload_n c177_19 rfl ?_
    refine r_iload_n c177_20 rfl ?_
    obtain ⟨s8, h⟩ := h
    obtain ⟨s9, h⟩ := h
    obtain ⟨b10, h⟩ := h
    obtain ⟨s11, h⟩ := h
    obtain ⟨s12, h⟩ := h
    refine r_aa c177_21 s8 s9 s11 (by have := (isO_d s12).1; omega) ?_
    refine r_iload c177_22 rfl ?_
    refine r_aload_n c177_24 rfl ?_
    refine r_iload_n c177_25 rfl ?_
    obtain ⟨s13, h⟩ := h
    obtain ⟨s14, h⟩ := h
    obtain ⟨b15, h⟩ := h
    obtain ⟨s16, h⟩ := h
    obtain ⟨s17, h⟩ := h
    refine r_aa c177_26 s13 s14 s16 (by have := (isO_d s17).1; omega) ?_
    refine r_iload c177_27 rfl ?_
    obtain ⟨s18, h⟩ := h
    refine r_iae c177_29 (oK hK s17) s18 rfl ?_
    obtain ⟨s19, h⟩ := h
    refine r_ias c177_30 (oK hK s12) s19 ?_
    have x20 := FX.set (v := (M b15 (Int.toNat l4))) (a := b10) (k := (Int.toNat l4)) hX (nfa s12 _)
    refine r_iinc c177_31 rfl ?_
    refine r_goto c177_34 ?_
    exact h
section CP
variable {d : Nat} {M : Mem} {K : KK} {Q : RR → Mem → KK → Prop}
theorem isO_t {a : Nat} (h : isO 922 a 20 = true) (hK : K.1 = 922) : Nat.ble 20 (tg a) = true ∧ isO K.1 a (tg a) = true := by
  have := isO_d h
  rw [hK, this.2.2]; exact ⟨rfl, h⟩
theorem g178 {a b : Nat} (hK : K.1 = 922) (hX : FX M) (h : isO 922 a 20 = true ∧ L27 a ∧ isO 922 b 20 = true ∧ L27 b ∧ a ≠ b) (k : ∀ M', FX M' → (Fr1 b M M' ∧ ∀ j, j < 27 → M' b j = M a j) → Q (.inl none) M' K) : Wm d 178 [vR a, vR b] M K Q := by
  obtain ⟨ha, za, hb, zb, hab⟩ := h
  refine u178_0 hK hX ?_
  have loop : ∀ f i, i + f = 27 → ∀ M1, FX M1 → Fr1 b M M1 → (∀ j, j < i → M1 b j = M a j) → Wp d 178 2 [vR a, vR b, vI (i : Int)] [] M1 K Q := by
    intro f
    induction f with
    | zero =>
      intro i hi M1 x1 f1 h1
      exact u178_2 hK x1 ⟨fun _ => k M1 x1 ⟨f1, fun j hj => h1 j (by omega)⟩, fun h => absurd h (by omega)⟩
    | succ f ih =>
      intro i hi M1 x1 f1 h1
      refine u178_2 hK x1 ⟨fun h => absurd h (by omega), fun _ => ⟨ha, ⟨by omega, ?_⟩, hb, ⟨by omega, ?_⟩, ?_⟩⟩
      · rw [show ln a = 27 from za]; omega
      · rw [show ln b = 27 from zb]; omega
      · rw [w1 (by omega), Int.toNat_natCast]
        refine ih (i + 1) (by omega) _ (x1.set (nfa hb _)) f1.up (fun j hj => ?_)
        by_cases hji : j = i
        · subst hji; rw [ms_eq]; exact f1 a j hab
        · rw [ms_nk hji]; exact h1 j (by omega)
  exact loop 27 0 rfl M hX (fun b k _ => rfl) (fun j hj => by omega)
theorem g177 {S T n z : Nat} (hK : K.1 = 922) (hX : FX M) (hTt : Nat.ble 30 (tg T) = true ∧ isO 922 T (tg T) = true) (hSt : Nat.ble 30 (tg S) = true ∧ isO 922 S (tg S) = true) (hnT : n ≤ ln T) (hnS : n ≤ ln S) (hz : z ≤ 100) (hn9 : n ≤ 900)
    (hT : ∀ i, i < n → isO 922 (T + 1 + i) 20 = true ∧ ln (T + 1 + i) = z ∧ fxT T i = T + 1 + i) (hS : ∀ i, i < n → isO 922 (S + 1 + i) 20 = true ∧ ln (S + 1 + i) = z ∧ fxT S i = S + 1 + i) (hd : T + n ≤ S ∨ S + n ≤ T)
    (k : ∀ M', FX M' → (∀ a j, ¬ (T + 1 ≤ a ∧ a ≤ T + n) → M' a j = M a j) → (∀ i j, i < n → j < z → M' (T + 1 + i) j = M (S + 1 + i) j) → Q (.inl none) M' K) : Wm d 177 [vR S, vR T, vI (n : Int)] M K Q := by
  have hT9 := (isO_d hTt.2).2.1
  have hS9 := (isO_d hSt.2).2.1
  have tT : Nat.ble 30 (tg T) = true ∧ isO K.1 T (tg T) = true := by rw [hK]; exact hTt
  have tS : Nat.ble 30 (tg S) = true ∧ isO K.1 S (tg S) = true := by rw [hK]; exact hSt
  refine u177_0 hK hX ?_
  have loop : ∀ f i, i + f = n → ∀ M1 (lx : PV), FX M1 → (∀ a j, ¬ (T + 1 ≤ a ∧ a ≤ T + n) → M1 a j = M a j) → (∀ i' j, i' < i → j < z → M1 (T + 1 + i') j = M (S + 1 + i') j) → Wp d 177 2 [vR S, vR T, vI (n : Int), vI (i : Int), lx] [] M1 K Q := by
    intro f
    induction f with
    | zero =>
      intro i hi M1 lx x1 f1 h1
      exact u177_2 hK x1 ⟨fun _ => k M1 x1 f1 (fun i' j h2 h3 => h1 i' j (by omega) h3), fun h => absurd h (by omega)⟩
    | succ f ih =>
      intro i hi M1 lx x1 f1 h1
      have hin : i < n := by omega
      obtain ⟨oT, lT, eT⟩ := hT i hin
      obtain ⟨oS, lS, eS⟩ := hS i hin
      have inner : ∀ g j, j + g = z → ∀ M2, FX M2 → (∀ a j, ¬ (T + 1 ≤ a ∧ a ≤ T + n) → M2 a j = M a j) → (∀ i' j, i' < i → j < z → M2 (T + 1 + i') j = M (S + 1 + i') j) → (∀ j', j' < j → M2 (T + 1 + i) j' = M (S + 1 + i) j') → Wp d 177 10 [vR S, vR T, vI (n : Int), vI (i : Int), vI (j : Int)] [] M2 K Q := by
        intro g
        induction g with
        | zero =>
          intro j hj M2 x2 f2 h2 h3
          refine u177_10 hK x2 ⟨tT, ⟨by omega, by omega⟩, T + 1 + i, ?_, oT, isO_t oT hK, fun _ => ?_, fun h => ?_⟩
          · rw [Int.toNat_natCast]; exact x2.get hT9 eT (by omega)
          · rw [w1 (by omega)]
            refine ih (i + 1) (by omega) M2 _ x2 f2 (fun i' j' h4 h5 => ?_)
            by_cases hii : i' = i
            · subst hii; exact h3 j' (by omega)
            · exact h2 i' j' (by omega) h5
          · rw [lT] at h; exact absurd (by omega) h
        | succ g ihg =>
          intro j hj M2 x2 f2 h2 h3
          refine u177_10 hK x2 ⟨tT, ⟨by omega, by omega⟩, T + 1 + i, ?_, oT, isO_t oT hK, fun h => ?_, fun h => ⟨tT, ⟨by omega, by omega⟩, T + 1 + i, ?_, oT, tS, ⟨by omega, by omega⟩, S + 1 + i, ?_, oS, ⟨by omega, ?_⟩, ⟨by omega, ?_⟩, ?_⟩⟩
          · rw [Int.toNat_natCast]; exact x2.get hT9 eT (by omega)
          · rw [lT] at h; exact absurd h (by omega)
          · rw [Int.toNat_natCast]; exact x2.get hT9 eT (by omega)
          · rw [Int.toNat_natCast]; exact x2.get hS9 eS (by omega)
          · rw [lS]; omega
          · rw [lT]; omega
          · rw [w1 (by omega), Int.toNat_natCast]
            refine ihg (j + 1) (by omega) _ (x2.set (nfa oT _)) (fun a j' ha => ?_) (fun i' j' h4 h5 => ?_) (fun j' h4 => ?_)
            · rw [ms_na (by omega)]; exact f2 a j' ha
            · rw [ms_na (by omega)]; exact h2 i' j' h4 h5
            · by_cases hjj : j' = j
              · subst hjj; rw [ms_eq]; exact f2 _ _ (by omega)
              · rw [ms_nk hjj]; exact h3 j' (by omega)
      refine u177_2 hK x1 ⟨fun h => absurd h (by omega), fun _ => ?_⟩
      exact inner z 0 (by omega) M1 x1 f1 h1 (fun j' h => absurd h (by omega))
  exact loop n 0 (by omega) M _ hX (fun _ _ _ => rfl) (fun i' j h => absurd h (by omega))
end CP
theorem u179_0 {d : Nat}  {M : Mem} {K : KK} {Q : RR → Mem → KK → Prop} (hK : K.1 = 922) (hX : FX M)  (h : Wp (d + 1) 179 2 [vR 439, vI (0 : Int)] [] M K Q) : Wp (d + 1) 179 0 [vR 439, vU] [] M K Q := by
  refine r_iconst c179_0 ?_
  refine r_istore_n c179_1 (Nat.le_of_ble_eq_true rfl) ?_
  exact h
theorem u179_2 {d : Nat} {l1 : Int} {M : Mem} {K : KK} {Q : RR → Mem → KK → Prop} (hK : K.1 = 922) (hX : FX M)  (h : ((6 : Int) ≤ l1 → Wp (d + 1) 179 28 [vR 439, vI (0 : Int)] [] M K Q) ∧ (¬ ((6 : Int) ≤ l1) → (0 ≤ l1 ∧ l1 < (6 : Int)) ∧ (0 ≤ l1 ∧ l1 < (6 : Int)) ∧ Wp (d + 1) 179 2 [vR 439, vI (w32 (l1 + 1))] [] (mset M 443 (Int.toNat l1) (M 442 (Int.toNat l1))) K Q)) : Wp (d + 1) 179 2 [vR 439, vI l1] [] M K Q := by
  refine r_iload_n c179_2 rfl ?_
  refine r_bipush c179_3 ?_
  refine r_icmpP (P := (6 : Int) ≤ l1) c179_5 rfl (fun hc1 => ?_) (fun hc1 => ?_)
  · replace h := h.1 hc1
    refine r_iconst c179_26 ?_
    refine r_istore_n c179_27 (Nat.le_of_ble_eq_true rfl) ?_
    exact h
  · replace h := h.2 hc1
    refine r_aload_n c179_8 rfl ?_
    refine r_getR c179_9 (oK hK o439) (FX.get (b := 443) hX (by decide) (by decide +kernel) (by decide)) (by decide) ?_
    refine r_iload_n c179_12 rfl ?_
    refine r_aload_n c179_13 rfl ?_
    refine r_getR c179_14 (oK hK o439) (FX.get (b := 442) hX (by decide) (by decide +kernel) (by decide)) (by decide) ?_
    refine r_iload_n c179_17 rfl ?_
    obtain ⟨s2, h⟩ := h
    refine r_iae c179_18 (oK hK o442) (bd l442 s2) rfl ?_
    obtain ⟨s3, h⟩ := h
    refine r_ias c179_19 (oK hK o443) (bd l443 s3) ?_
    have x4 := FX.set (v := (M 442 (Int.toNat l1))) (a := 443) (k := (Int.toNat l1)) hX (nfa o443 _)
    refine r_iinc c179_20 rfl ?_
    refine r_goto c179_23 ?_
    exact h
theorem u179_28 {d : Nat} {l1 : Int} {M : Mem} {K : KK} {Q : RR → Mem → KK → Prop} (hK : K.1 = 922) (hX : FX M)  (h : ((M 443 0) ≤ l1 → Wp (d + 1) 179 58 [vR 439, vI (0 : Int)] [] M K Q) ∧ (¬ ((M 443 0) ≤ l1) → (0 ≤ l1 ∧ l1 < (12 : Int)) ∧ (0 ≤ l1 ∧ l1 < (12 : Int)) ∧ Wp (d + 1) 179 28 [vR 439, vI (w32 (l1 + 1))] [] (mset M 445 (Int.toNat l1) (M 444 (Int.toNat l1))) K Q)) : Wp (d + 1) 179 28 [vR 439, vI l1] [] M K Q := by
  refine r_iload_n c179_28 rfl ?_
  refine r_aload_n c179_29 rfl ?_
  refine r_getR c179_30 (oK hK o439) (FX.get (b := 443) hX (by decide) (by decide +kernel) (by decide)) (by decide) ?_
  refine r_iconst c179_33 ?_
  refine r_iae c179_34 (oK hK o443) (bd l443 (by decide)) rfl ?_
  refine r_icmpP (P := (M 443 0) ≤ l1) c179_35 rfl (fun hc1 => ?_) (fun hc1 => ?_)
  · replace h := h.1 hc1
    refine r_iconst c179_56 ?_
    refine r_istore_n c179_57 (Nat.le_of_ble_eq_true rfl) ?_
    exact h
  · replace h := h.2 hc1
    refine r_aload_n c179_38 rfl ?_
    refine r_getR c179_39 (oK hK o439) (FX.get (b := 445) hX (by decide) (by decide +kernel) (by decide)) (by decide) ?_
    refine r_iload_n c179_42 rfl ?_
    refine r_aload_n c179_43 rfl ?_
    refine r_getR c179_44 (oK hK o439) (FX.get (b := 444) hX (by decide) (by decide +kernel) (by decide)) (by decide) ?_
    refine r_iload_n c179_47 rfl ?_
    obtain ⟨s2, h⟩ := h
    refine r_iae c179_48 (oK hK o444) (bd l444 s2) rfl ?_
    obtain ⟨s3, h⟩ := h
    refine r_ias c179_49 (oK hK o445) (bd l445 s3) ?_
    have x4 := FX.set (v := (M 444 (Int.toNat l1))) (a := 445) (k := (Int.toNat l1)) hX (nfa o445 _)
    refine r_iinc c179_50 rfl ?_
    refine r_goto c179_53 ?_
    exact h
theorem u179_58 {d : Nat} {l1 : Int} {M : Mem} {K : KK} {Q : RR → Mem → KK → Prop} (hK : K.1 = 922) (hX : FX M)  (h : ((M 443 2) ≤ l1 → Wp (d + 1) 179 88 [vR 439, vI (0 : Int)] [] M K Q) ∧ (¬ ((M 443 2) ≤ l1) → (0 ≤ l1 ∧ l1 < (8 : Int)) ∧ (0 ≤ l1 ∧ l1 < (8 : Int)) ∧ Wp (d + 1) 179 58 [vR 439, vI (w32 (l1 + 1))] [] (mset M 447 (Int.toNat l1) (M 446 (Int.toNat l1))) K Q)) : Wp (d + 1) 179 58 [vR 439, vI l1] [] M K Q := by
  refine r_iload_n c179_58 rfl ?_
  refine r_aload_n c179_59 rfl ?_
  refine r_getR c179_60 (oK hK o439) (FX.get (b := 443) hX (by decide) (by decide +kernel) (by decide)) (by decide) ?_
  refine r_iconst c179_63 ?_
  refine r_iae c179_64 (oK hK o443) (bd l443 (by decide)) rfl ?_
  refine r_icmpP (P := (M 443 2) ≤ l1) c179_65 rfl (fun hc1 => ?_) (fun hc1 => ?_)
  · replace h := h.1 hc1
    refine r_iconst c179_86 ?_
    refine r_istore_n c179_87 (Nat.le_of_ble_eq_true rfl) ?_
    exact h
  · replace h := h.2 hc1
    refine r_aload_n c179_68 rfl ?_
    refine r_getR c179_69 (oK hK o439) (FX.get (b := 447) hX (by decide) (by decide +kernel) (by decide)) (by decide) ?_
    refine r_iload_n c179_72 rfl ?_
    refine r_aload_n c179_73 rfl ?_
    refine r_getR c179_74 (oK hK o439) (FX.get (b := 446) hX (by decide) (by decide +kernel) (by decide)) (by decide) ?_
    refine r_iload_n c179_77 rfl ?_
    obtain ⟨s2, h⟩ := h
    refine r_iae c179_78 (oK hK o446) (bd l446 s2) rfl ?_
    obtain ⟨s3, h⟩ := h
    refine r_ias c179_79 (oK hK o447) (bd l447 s3) ?_
    have x4 := FX.set (v := (M 446 (Int.toNat l1))) (a := 447) (k := (Int.toNat l1)) hX (nfa o447 _)
    refine r_iinc c179_80 rfl ?_
    refine r_goto c179_83 ?_
    exact h
theorem u179_88 {d : Nat} {l1 : Int} {M : Mem} {K : KK} {Q : RR → Mem → KK → Prop} (hK : K.1 = 922) (hX : FX M)  (h : ((M 443 3) ≤ l1 → Wm d 177 [vR 450, vR 457, vI (M 443 1)] M K (Bk d 179 130 133 177 [vR 439, vI l1] [] Q)) ∧ (¬ ((M 443 3) ≤ l1) → (0 ≤ l1 ∧ l1 < (7 : Int)) ∧ (0 ≤ l1 ∧ l1 < (7 : Int)) ∧ Wp (d + 1) 179 88 [vR 439, vI (w32 (l1 + 1))] [] (mset M 449 (Int.toNat l1) (M 448 (Int.toNat l1))) K Q)) : Wp (d + 1) 179 88 [vR 439, vI l1] [] M K Q := by
  refine r_iload_n c179_88 rfl ?_
  refine r_aload_n c179_89 rfl ?_
  refine r_getR c179_90 (oK hK o439) (FX.get (b := 443) hX (by decide) (by decide +kernel) (by decide)) (by decide) ?_
  refine r_iconst c179_93 ?_
  refine r_iae c179_94 (oK hK o443) (bd l443 (by decide)) rfl ?_
  refine r_icmpP (P := (M 443 3) ≤ l1) c179_95 rfl (fun hc1 => ?_) (fun hc1 => ?_)
  · replace h := h.1 hc1
    refine r_aload_n c179_116 rfl ?_
    refine r_getR c179_117 (oK hK o439) (FX.get (b := 450) hX (by decide) (by decide +kernel) (by decide)) (by decide) ?_
    refine r_aload_n c179_120 rfl ?_
    refine r_getR c179_121 (oK hK o439) (FX.get (b := 457) hX (by decide) (by decide +kernel) (by decide)) (by decide) ?_
    refine r_aload_n c179_124 rfl ?_
    refine r_getR c179_125 (oK hK o439) (FX.get (b := 443) hX (by decide) (by decide +kernel) (by decide)) (by decide) ?_
    refine r_iconst c179_128 ?_
    refine r_iae c179_129 (oK hK o443) (bd l443 (by decide)) rfl ?_
    exact r_call c179_130 rfl rfl (Nat.le_of_ble_eq_true rfl) (okc_s rfl rfl rfl) h
  · replace h := h.2 hc1
    refine r_aload_n c179_98 rfl ?_
    refine r_getR c179_99 (oK hK o439) (FX.get (b := 449) hX (by decide) (by decide +kernel) (by decide)) (by decide) ?_
    refine r_iload_n c179_102 rfl ?_
    refine r_aload_n c179_103 rfl ?_
    refine r_getR c179_104 (oK hK o439) (FX.get (b := 448) hX (by decide) (by decide +kernel) (by decide)) (by decide) ?_
    refine r_iload_n c179_107 rfl ?_
    obtain ⟨s2, h⟩ := h
    refine r_iae c179_108 (oK hK o448) (bd l448 s2) rfl ?_
    obtain ⟨s3, h⟩ := h
    refine r_ias c179_109 (oK hK o449) (bd l449 s3) ?_
    have x4 := FX.set (v := (M 448 (Int.toNat l1))) (a := 449) (k := (Int.toNat l1)) hX (nfa o449 _)
    refine r_iinc c179_110 rfl ?_
    refine r_goto c179_113 ?_
    exact h
theorem u179_133 {d : Nat} {l1 : Int} {M : Mem} {K : KK} {Q : RR → Mem → KK → Prop} (hK : K.1 = 922) (hX : FX M)  (h : Wp (d + 1) 179 135 [vR 439, vI (0 : Int)] [] M K Q) : Wp (d + 1) 179 133 [vR 439, vI l1] [] M K Q := by
  refine r_iconst c179_133 ?_
  refine r_istore_n c179_134 (Nat.le_of_ble_eq_true rfl) ?_
  exact h
theorem u179_135 {d : Nat} {l1 : Int} {M : Mem} {K : KK} {Q : RR → Mem → KK → Prop} (hK : K.1 = 922) (hX : FX M)  (h : ((27 : Int) ≤ l1 → Wp (d + 1) 179 156 [vR 439, vI (0 : Int)] [] M K Q) ∧ (¬ ((27 : Int) ≤ l1) → (0 ≤ l1 ∧ l1 < (27 : Int)) ∧ Wp (d + 1) 179 135 [vR 439, vI (w32 (l1 + 1))] [] (mset M 887 (Int.toNat l1) (0 : Int)) K Q)) : Wp (d + 1) 179 135 [vR 439, vI l1] [] M K Q := by
  refine r_iload_n c179_135 rfl ?_
  refine r_bipush c179_136 ?_
  refine r_icmpP (P := (27 : Int) ≤ l1) c179_138 rfl (fun hc1 => ?_) (fun hc1 => ?_)
  · replace h := h.1 hc1
    refine r_iconst c179_154 ?_
    refine r_istore_n c179_155 (Nat.le_of_ble_eq_true rfl) ?_
    exact h
  · replace h := h.2 hc1
    refine r_aload_n c179_141 rfl ?_
    refine r_getR c179_142 (oK hK o439) (FX.get (b := 887) hX (by decide) (by decide +kernel) (by decide)) (by decide) ?_
    refine r_iload_n c179_145 rfl ?_
    refine r_iconst c179_146 ?_
    obtain ⟨s2, h⟩ := h
    refine r_ias c179_147 (oK hK o887) (bd l887 s2) ?_
    have x3 := FX.set (v := (0 : Int)) (a := 887) (k := (Int.toNat l1)) hX (nfa o887 _)
    refine r_iinc c179_148 rfl ?_
    refine r_goto c179_151 ?_
    exact h
theorem u179_156 {d : Nat} {l1 : Int} {M : Mem} {K : KK} {Q : RR → Mem → KK → Prop} (hK : K.1 = 922) (hX : FX M)  (h : ((6 : Int) ≤ l1 → Q (.inl none) (mset (mset (mset (mset (mset (mset (mset M 887 25 (M 443 4)) 887 26 (-1 : Int)) 439 21 (0 : Int)) 439 35 (0 : Int)) 439 36 (0 : Int)) 439 37 (0 : Int)) 439 38 (0 : Int)) K) ∧ (¬ ((6 : Int) ≤ l1) → (0 ≤ (w32 ((0 : Int) + l1)) ∧ (w32 ((0 : Int) + l1)) < (27 : Int)) ∧ ((M 443 1) ≤ l1 → (0 ≤ (w32 ((6 : Int) + l1)) ∧ (w32 ((6 : Int) + l1)) < (27 : Int)) ∧ Wp (d + 1) 179 156 [vR 439, vI (w32 (l1 + 1))] [] (mset (mset M 887 (Int.toNat (w32 ((0 : Int) + l1))) (-1 : Int)) 887 (Int.toNat (w32 ((6 : Int) + l1))) (0 : Int)) K Q) ∧ (¬ ((M 443 1) ≤ l1) → (0 ≤ l1 ∧ l1 < (6 : Int)) ∧ (0 ≤ (w32 ((6 : Int) + l1)) ∧ (w32 ((6 : Int) + l1)) < (27 : Int)) ∧ Wp (d + 1) 179 156 [vR 439, vI (w32 (l1 + 1))] [] (mset (mset M 887 (Int.toNat (w32 ((0 : Int) + l1))) (-1 : Int)) 887 (Int.toNat (w32 ((6 : Int) + l1))) (M (458 + Int.toNat l1) 1)) K Q))) : Wp (d + 1) 179 156 [vR 439, vI l1] [] M K Q := by
  refine r_iload_n c179_156 rfl ?_
  refine r_bipush c179_157 ?_
  refine r_icmpP (P := (6 : Int) ≤ l1) c179_159 rfl (fun hc1 => ?_) (fun hc1 => ?_)
  · replace h := h.1 hc1
    refine r_aload_n c179_208 rfl ?_
    refine r_getR c179_209 (oK hK o439) (FX.get (b := 887) hX (by decide) (by decide +kernel) (by decide)) (by decide) ?_
    refine r_bipush c179_212 ?_
    refine r_aload_n c179_214 rfl ?_
    refine r_getR c179_215 (oK hK o439) (FX.get (b := 443) hX (by decide) (by decide +kernel) (by decide)) (by decide) ?_
    refine r_iconst c179_218 ?_
    refine r_iae c179_219 (oK hK o443) (bd l443 (by decide)) rfl ?_
    refine r_ias c179_220 (oK hK o887) (bd l887 (by decide)) ?_
    have x2 := FX.set (v := (M 443 4)) (a := 887) (k := 25) hX (nfa o887 _)
    refine r_aload_n c179_221 rfl ?_
    refine r_getR c179_222 (oK hK o439) (FX.get (b := 887) x2 (by decide) (by decide +kernel) (by decide)) (by decide) ?_
    refine r_bipush c179_225 ?_
    refine r_iconst c179_227 ?_
    refine r_ias c179_228 (oK hK o887) (bd l887 (by decide)) ?_
    have x3 := FX.set (v := (-1 : Int)) (a := 887) (k := 26) x2 (nfa o887 _)
    refine r_aload_n c179_229 rfl ?_
    refine r_iconst c179_230 ?_
    refine r_putI c179_231 (oK hK o439) ?_
    have x4 := FX.set (v := (0 : Int)) (a := 439) (k := 21) x3 (by decide +kernel)
    refine r_aload_n c179_234 rfl ?_
    refine r_iconst c179_235 ?_
    refine r_putI c179_236 (oK hK o439) ?_
    have x5 := FX.set (v := (0 : Int)) (a := 439) (k := 35) x4 (by decide +kernel)
    refine r_aload_n c179_239 rfl ?_
    refine r_iconst c179_240 ?_
    refine r_putI c179_241 (oK hK o439) ?_
    have x6 := FX.set (v := (0 : Int)) (a := 439) (k := 36) x5 (by decide +kernel)
    refine r_aload_n c179_244 rfl ?_
    refine r_iconst c179_245 ?_
    refine r_putI c179_246 (oK hK o439) ?_
    have x7 := FX.set (v := (0 : Int)) (a := 439) (k := 37) x6 (by decide +kernel)
    refine r_aload_n c179_249 rfl ?_
    refine r_iconst c179_250 ?_
    refine r_putI c179_251 (oK hK o439) ?_
    have x8 := FX.set (v := (0 : Int)) (a := 439) (k := 38) x7 (by decide +kernel)
    exact r_ret c179_254 h
  · replace h := h.2 hc1
    refine r_aload_n c179_162 rfl ?_
    refine r_getR c179_163 (oK hK o439) (FX.get (b := 887) hX (by decide) (by decide +kernel) (by decide)) (by decide) ?_
    refine r_iconst c179_166 ?_
    refine r_iload_n c179_167 rfl ?_
    refine r_iadd c179_168 ?_
    refine r_iconst c179_169 ?_
    obtain ⟨s9, h⟩ := h
    refine r_ias c179_170 (oK hK o887) (bd l887 s9) ?_
    have x10 := FX.set (v := (-1 : Int)) (a := 887) (k := (Int.toNat (w32 ((0 : Int) + l1)))) hX (nfa o887 _)
    refine r_aload_n c179_171 rfl ?_
    refine r_getR c179_172 (oK hK o439) (FX.get (b := 887) x10 (by decide) (by decide +kernel) (by decide)) (by decide) ?_
    refine r_bipush c179_175 ?_
    refine r_iload_n c179_177 rfl ?_
    refine r_iadd c179_178 ?_
    refine r_iload_n c179_179 rfl ?_
    refine r_aload_n c179_180 rfl ?_
    refine r_getR c179_181 (oK hK o439) (FX.get (b := 443) x10 (by decide) (by decide +kernel) (by decide)) (by decide) ?_
    refine r_iconst c179_184 ?_
    refine r_iae c179_185 (oK hK o443) (bd l443 (by decide)) (ms_na (by decide)) ?_
    refine r_icmpP (P := (M 443 1) ≤ l1) c179_186 rfl (fun hc11 => ?_) (fun hc11 => ?_)
    · replace h := h.1 hc11
      refine r_iconst c179_200 ?_
      obtain ⟨s12, h⟩ := h
      refine r_ias c179_201 (oK hK o887) (bd l887 s12) ?_
      have x13 := FX.set (v := (0 : Int)) (a := 887) (k := (Int.toNat (w32 ((6 : Int) + l1)))) x10 (nfa o887 _)
      refine r_iinc c179_202 rfl ?_
      refine r_goto c179_205 ?_
      exact h
    · replace h := h.2 hc11
      refine r_aload_n c179_189 rfl ?_
      refine r_getR c179_190 (oK hK o439) (FX.get (b := 457) x10 (by decide) (by decide +kernel) (by decide)) (by decide) ?_
      refine r_iload_n c179_193 rfl ?_
      obtain ⟨s14, h⟩ := h
      refine r_aa c179_194 (mrw o457 hK) (bd l457 s14) (rf457 x10 s14) (by omega) ?_
      refine r_iconst c179_195 ?_
      refine r_iae c179_196 (oK hK (ro457 s14)) (bd (rz457 s14) (by decide)) (ms_na (by omega)) ?_
      refine r_goto c179_197 ?_
      obtain ⟨s15, h⟩ := h
      refine r_ias c179_201 (oK hK o887) (bd l887 s15) ?_
      have x16 := FX.set (v := (M (458 + Int.toNat l1) 1)) (a := 887) (k := (Int.toNat (w32 ((6 : Int) + l1)))) x10 (nfa o887 _)
      refine r_iinc c179_202 rfl ?_
      refine r_goto c179_205 ?_
      exact h
