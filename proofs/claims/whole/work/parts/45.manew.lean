/-! rows copied, a room begun anew: the model -/
theorem u178_0 {d : Nat} {l0 : Nat} {l1 : Nat} {M : Mem} {K : KK} {Q : RR → Mem → KK → Prop} (hK : K.1 = 923) (hX : FX M)  (h : Wp d 178 2 [vR l0, vR l1, vI (0 : Int)] [] M K Q) : Wp d 178 0 [vR l0, vR l1, vU] [] M K Q := by
  refine r_iconst c178_0 ?_
  refine r_istore_n c178_1 (Nat.le_of_ble_eq_true rfl) ?_
  exact h
theorem u178_2 {d : Nat} {l0 : Nat} {l1 : Nat} {l2 : Int} {M : Mem} {K : KK} {Q : RR → Mem → KK → Prop} (hK : K.1 = 923) (hX : FX M)  (h : ((27 : Int) ≤ l2 → Q (.inl none) M K) ∧ (¬ ((27 : Int) ≤ l2) → isO 923 l0 20 = true ∧ (0 ≤ l2 ∧ l2 < (ln l0 : Int)) ∧ isO 923 l1 20 = true ∧ (0 ≤ l2 ∧ l2 < (ln l1 : Int)) ∧ Wp d 178 2 [vR l0, vR l1, vI (w32 (l2 + 1))] [] (mset M l1 (Int.toNat l2) (M l0 (Int.toNat l2))) K Q)) : Wp d 178 2 [vR l0, vR l1, vI l2] [] M K Q := by
  refine r_iload_n c178_2 rfl ?_
  refine r_bipush c178_3 ?_
  refine r_icmpP (P := (27 : Int) ≤ l2) c178_5 rfl (fun hc1 => ?_) (fun hc1 => ?_)
  · replace h := h.1 hc1
    exact r_ret c178_20 h
  · replace h := h.2 hc1
    refine r_aload_n c178_8 rfl ?_
    refine r_iload_n c178_9 rfl ?_
    refine r_aload_n c178_10 rfl ?_
    refine r_iload_n c178_11 rfl ?_
    obtain ⟨o2, h⟩ := h
    obtain ⟨s3, h⟩ := h
    refine r_iae c178_12 (oK hK o2) s3 rfl ?_
    obtain ⟨o4, h⟩ := h
    obtain ⟨s5, h⟩ := h
    refine r_ias c178_13 (oK hK o4) s5 ?_
    have x6 := FX.set (v := (M l0 (Int.toNat l2))) (a := l1) (k := (Int.toNat l2)) hX (nfa o4 _)
    refine r_iinc c178_14 rfl ?_
    refine r_goto c178_17 ?_
    exact h
theorem u177_0 {d : Nat} {l0 : Nat} {l1 : Nat} {l2 : Int} {M : Mem} {K : KK} {Q : RR → Mem → KK → Prop} (hK : K.1 = 923) (hX : FX M)  (h : Wp d 177 2 [vR l0, vR l1, vI l2, vI (0 : Int), vU] [] M K Q) : Wp d 177 0 [vR l0, vR l1, vI l2, vU, vU] [] M K Q := by
  refine r_iconst c177_0 ?_
  refine r_istore_n c177_1 (Nat.le_of_ble_eq_true rfl) ?_
  exact h
theorem u177_2 {d : Nat} {l0 : Nat} {l1 : Nat} {l2 : Int} {l3 : Int} {l4 : PV} {M : Mem} {K : KK} {Q : RR → Mem → KK → Prop} (hK : K.1 = 923) (hX : FX M)  (h : (l2 ≤ l3 → Q (.inl none) M K) ∧ (¬ (l2 ≤ l3) → Wp d 177 10 [vR l0, vR l1, vI l2, vI l3, vI (0 : Int)] [] M K Q)) : Wp d 177 2 [vR l0, vR l1, vI l2, vI l3, l4] [] M K Q := by
  refine r_iload_n c177_2 rfl ?_
  refine r_iload_n c177_3 rfl ?_
  refine r_icmpP (P := l2 ≤ l3) c177_4 rfl (fun hc1 => ?_) (fun hc1 => ?_)
  · replace h := h.1 hc1
    exact r_ret c177_43 h
  · replace h := h.2 hc1
    refine r_iconst c177_7 ?_
    refine r_istore c177_8 (Nat.le_of_ble_eq_true rfl) ?_
    exact h
theorem u177_10 {d : Nat} {l0 : Nat} {l1 : Nat} {l2 : Int} {l3 : Int} {l4 : Int} {M : Mem} {K : KK} {Q : RR → Mem → KK → Prop} (hK : K.1 = 923) (hX : FX M)  (h : (Nat.ble 30 (tg l1) = true ∧ isO K.1 l1 (tg l1) = true) ∧ (0 ≤ l3 ∧ l3 < (ln l1 : Int)) ∧ ∃ b3 : Nat, M l1 (Int.toNat l3) = (b3 : Int) ∧ isO 923 b3 20 = true ∧ (Nat.ble 20 (tg b3) = true ∧ isO K.1 b3 (tg b3) = true) ∧ ((ln b3 : Int) ≤ l4 → Wp d 177 2 [vR l0, vR l1, vI l2, vI (w32 (l3 + 1)), vI l4] [] M K Q) ∧ (¬ ((ln b3 : Int) ≤ l4) → (Nat.ble 30 (tg l1) = true ∧ isO K.1 l1 (tg l1) = true) ∧ (0 ≤ l3 ∧ l3 < (ln l1 : Int)) ∧ ∃ b10 : Nat, M l1 (Int.toNat l3) = (b10 : Int) ∧ isO 923 b10 20 = true ∧ (Nat.ble 30 (tg l0) = true ∧ isO K.1 l0 (tg l0) = true) ∧ (0 ≤ l3 ∧ l3 < (ln l0 : Int)) ∧ ∃ b15 : Nat, M l0 (Int.toNat l3) = (b15 : Int) ∧ isO 923 b15 20 = true ∧ (0 ≤ l4 ∧ l4 < (ln b15 : Int)) ∧ (0 ≤ l4 ∧ l4 < (ln b10 : Int)) ∧ Wp d 177 10 [vR l0, vR l1, vI l2, vI l3, vI (w32 (l4 + 1))] [] (mset M b10 (Int.toNat l4) (M b15 (Int.toNat l4))) K Q)) : Wp d 177 10 [vR l0, vR l1, vI l2, vI l3, vI l4] [] M K Q := by
  refine r_iload c177_10 rfl ?_
  refine r_aload_n c177_12 rfl ?_
  refine r_iload_n c177_13 rfl ?_
  obtain ⟨s1, h⟩ := h
  obtain ⟨s2, h⟩ := h
  obtain ⟨b3, h⟩ := h
  obtain ⟨s4, h⟩ := h
  obtain ⟨s5, h⟩ := h
  refine r_aa c177_14 s1 s2 s4 (by have := (isO_d s5).1; omega) ?_
  obtain ⟨s6, h⟩ := h
  refine r_alen c177_15 s6 ?_
  refine r_icmpP (P := (ln b3 : Int) ≤ l4) c177_16 rfl (fun hc7 => ?_) (fun hc7 => ?_)
  · replace h := h.1 hc7
    refine r_iinc c177_37 rfl ?_
    refine r_goto c177_40 ?_
    exact h
  · replace h := h.2 hc7
    refine r_aload_n c177_19 rfl ?_
    refine r_iload_n c177_20 rfl ?_
    obtain ⟨s8, h⟩ := h
    obtain ⟨s9, h⟩ := h
    obtain ⟨b10, h⟩ := h
    obtain ⟨s11, h⟩ := h
    obtain ⟨s12, h⟩ := h
    refine r_aa c177_21 s8 s9 s11 (by have := (isO_d s12).1; omega) ?_
    refine r_iload c177_22 rfl ?_
    refine r_aload_n c177_24 rfl ?_
    refine r_iload_n c177_25 rfl ?_
    obtain ⟨s13, h⟩ := h
    obtain ⟨s14, h⟩ := h
    obtain ⟨b15, h⟩ := h
    obtain ⟨s16, h⟩ := h
    obtain ⟨s17, h⟩ := h
    refine r_aa c177_26 s13 s14 s16 (by have := (isO_d s17).1; omega) ?_
    refine r_iload c177_27 rfl ?_
    obtain ⟨s18, h⟩ := h
    refine r_iae c177_29 (oK hK s17) s18 rfl ?_
    obtain ⟨s19, h⟩ := h
    refine r_ias c177_30 (oK hK s12) s19 ?_
    have x20 := FX.set (v := (M b15 (Int.toNat l4))) (a := b10) (k := (Int.toNat l4)) hX (nfa s12 _)
    refine r_iinc c177_31 rfl ?_
    refine r_goto c177_34 ?_
    exact h
section CP
variable {d : Nat} {M : Mem} {K : KK} {Q : RR → Mem → KK → Prop}
theorem isO_t {a : Nat} (h : isO 923 a 20 = true) (hK : K.1 = 923) : Nat.ble 20 (tg a) = true ∧ isO K.1 a (tg a) = true := by
  have := isO_d h
  rw [hK, this.2.2]; exact ⟨rfl, h⟩
theorem g178 {a b : Nat} (hK : K.1 = 923) (hX : FX M) (h : isO 923 a 20 = true ∧ L27 a ∧ isO 923 b 20 = true ∧ L27 b ∧ a ≠ b) (k : ∀ M', FX M' → (Fr1 b M M' ∧ ∀ j, j < 27 → M' b j = M a j) → Q (.inl none) M' K) : Wm d 178 [vR a, vR b] M K Q := by
  obtain ⟨ha, za, hb, zb, hab⟩ := h
  refine u178_0 hK hX ?_
  have loop : ∀ f i, i + f = 27 → ∀ M1, FX M1 → Fr1 b M M1 → (∀ j, j < i → M1 b j = M a j) → Wp d 178 2 [vR a, vR b, vI (i : Int)] [] M1 K Q := by
    intro f
    induction f with
    | zero =>
      intro i hi M1 x1 f1 h1
      exact u178_2 hK x1 ⟨fun _ => k M1 x1 ⟨f1, fun j hj => h1 j (by omega)⟩, fun h => absurd h (by omega)⟩
    | succ f ih =>
      intro i hi M1 x1 f1 h1
      refine u178_2 hK x1 ⟨fun h => absurd h (by omega), fun _ => ⟨ha, ⟨by omega, ?_⟩, hb, ⟨by omega, ?_⟩, ?_⟩⟩
      · rw [show ln a = 27 from za]; omega
      · rw [show ln b = 27 from zb]; omega
      · rw [w1 (by omega), Int.toNat_natCast]
        refine ih (i + 1) (by omega) _ (x1.set (nfa hb _)) f1.up (fun j hj => ?_)
        by_cases hji : j = i
        · subst hji; rw [ms_eq]; exact f1 a j hab
        · rw [ms_nk hji]; exact h1 j (by omega)
  exact loop 27 0 rfl M hX (fun b k _ => rfl) (fun j hj => by omega)
theorem g177 {S T n z : Nat} (hK : K.1 = 923) (hX : FX M) (hTt : Nat.ble 30 (tg T) = true ∧ isO 923 T (tg T) = true) (hSt : Nat.ble 30 (tg S) = true ∧ isO 923 S (tg S) = true) (hnT : n ≤ ln T) (hnS : n ≤ ln S) (hz : z ≤ 100) (hn9 : n ≤ 900)
    (hT : ∀ i, i < n → isO 923 (T + 1 + i) 20 = true ∧ ln (T + 1 + i) = z ∧ fxT T i = T + 1 + i) (hS : ∀ i, i < n → isO 923 (S + 1 + i) 20 = true ∧ ln (S + 1 + i) = z ∧ fxT S i = S + 1 + i) (hd : T + n ≤ S ∨ S + n ≤ T)
    (k : ∀ M', FX M' → (∀ a j, ¬ (T + 1 ≤ a ∧ a ≤ T + n) → M' a j = M a j) → (∀ i j, i < n → j < z → M' (T + 1 + i) j = M (S + 1 + i) j) → Q (.inl none) M' K) : Wm d 177 [vR S, vR T, vI (n : Int)] M K Q := by
  have hT9 := (isO_d hTt.2).2.1
  have hS9 := (isO_d hSt.2).2.1
  have tT : Nat.ble 30 (tg T) = true ∧ isO K.1 T (tg T) = true := by rw [hK]; exact hTt
  have tS : Nat.ble 30 (tg S) = true ∧ isO K.1 S (tg S) = true := by rw [hK]; exact hSt
  refine u177_0 hK hX ?_
  have loop : ∀ f i, i + f = n → ∀ M1 (lx : PV), FX M1 → (∀ a j, ¬ (T + 1 ≤ a ∧ a ≤ T + n) → M1 a j = M a j) → (∀ i' j, i' < i → j < z → M1 (T + 1 + i') j = M (S + 1 + i') j) → Wp d 177 2 [vR S, vR T, vI (n : Int), vI (i : Int), lx] [] M1 K Q := by
    intro f
    induction f with
    | zero =>
      intro i hi M1 lx x1 f1 h1
      exact u177_2 hK x1 ⟨fun _ => k M1 x1 f1 (fun i' j h2 h3 => h1 i' j (by omega) h3), fun h => absurd h (by omega)⟩
    | succ f ih =>
      intro i hi M1 lx x1 f1 h1
      have hin : i < n := by omega
      obtain ⟨oT, lT, eT⟩ := hT i hin
      obtain ⟨oS, lS, eS⟩ := hS i hin
      have inner : ∀ g j, j + g = z → ∀ M2, FX M2 → (∀ a j, ¬ (T + 1 ≤ a ∧ a ≤ T + n) → M2 a j = M a j) → (∀ i' j, i' < i → j < z → M2 (T + 1 + i') j = M (S + 1 + i') j) → (∀ j', j' < j → M2 (T + 1 + i) j' = M (S + 1 + i) j') → Wp d 177 10 [vR S, vR T, vI (n : Int), vI (i : Int), vI (j : Int)] [] M2 K Q := by
        intro g
        induction g with
        | zero =>
          intro j hj M2 x2 f2 h2 h3
          refine u177_10 hK x2 ⟨tT, ⟨by omega, by omega⟩, T + 1 + i, ?_, oT, isO_t oT hK, fun _ => ?_, fun h => ?_⟩
          · rw [Int.toNat_natCast]; exact x2.get hT9 eT (by omega)
          · rw [w1 (by omega)]
            refine ih (i + 1) (by omega) M2 _ x2 f2 (fun i' j' h4 h5 => ?_)
            by_cases hii : i' = i
            · subst hii; exact h3 j' (by omega)
            · exact h2 i' j' (by omega) h5
          · rw [lT] at h; exact absurd (by omega) h
        | succ g ihg =>
          intro j hj M2 x2 f2 h2 h3
          refine u177_10 hK x2 ⟨tT, ⟨by omega, by omega⟩, T + 1 + i, ?_, oT, isO_t oT hK, fun h => ?_, fun h => ⟨tT, ⟨by omega, by omega⟩, T + 1 + i, ?_, oT, tS, ⟨by omega, by omega⟩, S + 1 + i, ?_, oS, ⟨by omega, ?_⟩, ⟨by omega, ?_⟩, ?_⟩⟩
          · rw [Int.toNat_natCast]; exact x2.get hT9 eT (by omega)
          · rw [lT] at h; exact absurd h (by omega)
          · rw [Int.toNat_natCast]; exact x2.get hT9 eT (by omega)
          · rw [Int.toNat_natCast]; exact x2.get hS9 eS (by omega)
          · rw [lS]; omega
          · rw [lT]; omega
          · rw [w1 (by omega), Int.toNat_natCast]
            refine ihg (j + 1) (by omega) _ (x2.set (nfa oT _)) (fun a j' ha => ?_) (fun i' j' h4 h5 => ?_) (fun j' h4 => ?_)
            · rw [ms_na (by omega)]; exact f2 a j' ha
            · rw [ms_na (by omega)]; exact h2 i' j' h4 h5
            · by_cases hjj : j' = j
              · subst hjj; rw [ms_eq]; exact f2 _ _ (by omega)
              · rw [ms_nk hjj]; exact h3 j' (by omega)
      refine u177_2 hK x1 ⟨fun h => absurd h (by omega), fun _ => ?_⟩
      exact inner z 0 (by omega) M1 x1 f1 h1 (fun j' h => absurd h (by omega))
  exact loop n 0 (by omega) M _ hX (fun _ _ _ => rfl) (fun i' j h => absurd h (by omega))
end CP
