/-! a program is read: the class -/
theorem u68_0 {d : Nat}  {M : Mem} {K : KK} {Q : RR → Mem → KK → Prop} (hK : K.1 = 923) (hX : FX M)  (h : ∃ n1 : Nat, ∃ p2 : Nat, ∃ e3 : Nat, WA n1 M p2 e3 ∧ (¬ (wdL (M 34) p2 e3 = wL 18) → ∃ n7 : Nat, ∃ p8 : Nat, ∃ e9 : Nat, WA n7 M p8 e9 ∧ (¬ (wdL (M 34) p8 e9 = wL 19) → ∃ n13 : Nat, ∃ p14 : Nat, ∃ e15 : Nat, WA n13 M p14 e15 ∧ (¬ (wdL (M 34) p14 e15 = wL 20) → ∃ n19 : Nat, ∃ p20 : Nat, ∃ e21 : Nat, WA n19 M p20 e21 ∧ (¬ (wdL (M 34) p20 e21 = wL 21) → ∃ n25 : Nat, ∃ p26 : Nat, ∃ e27 : Nat, WA n25 M p26 e27 ∧ (¬ (wdL (M 34) p26 e27 = wL 22) → ∃ n31 : Nat, ∃ p32 : Nat, ∃ e33 : Nat, WA n31 M p32 e33 ∧ (¬ (wdL (M 34) p32 e33 = wL 23) → ∃ n37 : Nat, ∃ p38 : Nat, ∃ e39 : Nat, WA n37 M p38 e39 ∧ (¬ (wdL (M 34) p38 e39 = wL 24) → Q (.inl (some (vI (-1 : Int)))) M K) ∧ ((wdL (M 34) p38 e39 = wL 24) → Q (.inl (some (vI (7 : Int)))) M K)) ∧ ((wdL (M 34) p32 e33 = wL 23) → Q (.inl (some (vI (6 : Int)))) M K)) ∧ ((wdL (M 34) p26 e27 = wL 22) → Q (.inl (some (vI (5 : Int)))) M K)) ∧ ((wdL (M 34) p20 e21 = wL 21) → Q (.inl (some (vI (4 : Int)))) M K)) ∧ ((wdL (M 34) p14 e15 = wL 20) → Q (.inl (some (vI (3 : Int)))) M K)) ∧ ((wdL (M 34) p8 e9 = wL 19) → Q (.inl (some (vI (2 : Int)))) M K)) ∧ ((wdL (M 34) p2 e3 = wL 18) → Q (.inl (some (vI (1 : Int)))) M K)) : Wp (d + 1) 68 0 [vR 33] [] M K Q := by
  refine r_aload_n c68_0 rfl ?_
  refine r_ldcs c68_1 ?_
  obtain ⟨n1, h⟩ := h
  obtain ⟨p2, h⟩ := h
  obtain ⟨e3, h⟩ := h
  obtain ⟨p4, h⟩ := h
  refine r_call c68_3 rfl rfl (Nat.le_of_ble_eq_true rfl) (okc_r rfl rfl (oK hK o33)) (g94 hK hX (by decide) p4 (Bk_v ?_))
  refine r_ifP (P := ¬ (wdL (M 34) p2 e3 = wL 18)) c68_6 bI_eq (fun hc5 => ?_) (fun hc5 => ?_)
  · replace h := h.1 hc5
    refine r_aload_n c68_13 rfl ?_
    refine r_ldcs c68_14 ?_
    obtain ⟨n7, h⟩ := h
    obtain ⟨p8, h⟩ := h
    obtain ⟨e9, h⟩ := h
    obtain ⟨p10, h⟩ := h
    refine r_call c68_16 rfl rfl (Nat.le_of_ble_eq_true rfl) (okc_r rfl rfl (oK hK o33)) (g94 hK hX (by decide) p10 (Bk_v ?_))
    refine r_ifP (P := ¬ (wdL (M 34) p8 e9 = wL 19)) c68_19 bI_eq (fun hc11 => ?_) (fun hc11 => ?_)
    · replace h := h.1 hc11
      refine r_aload_n c68_26 rfl ?_
      refine r_ldcs c68_27 ?_
      obtain ⟨n13, h⟩ := h
      obtain ⟨p14, h⟩ := h
      obtain ⟨e15, h⟩ := h
      obtain ⟨p16, h⟩ := h
      refine r_call c68_29 rfl rfl (Nat.le_of_ble_eq_true rfl) (okc_r rfl rfl (oK hK o33)) (g94 hK hX (by decide) p16 (Bk_v ?_))
      refine r_ifP (P := ¬ (wdL (M 34) p14 e15 = wL 20)) c68_32 bI_eq (fun hc17 => ?_) (fun hc17 => ?_)
      · replace h := h.1 hc17
        refine r_aload_n c68_39 rfl ?_
        refine r_ldcs c68_40 ?_
        obtain ⟨n19, h⟩ := h
        obtain ⟨p20, h⟩ := h
        obtain ⟨e21, h⟩ := h
        obtain ⟨p22, h⟩ := h
        refine r_call c68_42 rfl rfl (Nat.le_of_ble_eq_true rfl) (okc_r rfl rfl (oK hK o33)) (g94 hK hX (by decide) p22 (Bk_v ?_))
        refine r_ifP (P := ¬ (wdL (M 34) p20 e21 = wL 21)) c68_45 bI_eq (fun hc23 => ?_) (fun hc23 => ?_)
        · replace h := h.1 hc23
          refine r_aload_n c68_52 rfl ?_
          refine r_ldcs c68_53 ?_
          obtain ⟨n25, h⟩ := h
          obtain ⟨p26, h⟩ := h
          obtain ⟨e27, h⟩ := h
          obtain ⟨p28, h⟩ := h
          refine r_call c68_55 rfl rfl (Nat.le_of_ble_eq_true rfl) (okc_r rfl rfl (oK hK o33)) (g94 hK hX (by decide) p28 (Bk_v ?_))
          refine r_ifP (P := ¬ (wdL (M 34) p26 e27 = wL 22)) c68_58 bI_eq (fun hc29 => ?_) (fun hc29 => ?_)
          · replace h := h.1 hc29
            refine r_aload_n c68_65 rfl ?_
            refine r_ldcs c68_66 ?_
            obtain ⟨n31, h⟩ := h
            obtain ⟨p32, h⟩ := h
            obtain ⟨e33, h⟩ := h
            obtain ⟨p34, h⟩ := h
            refine r_call c68_68 rfl rfl (Nat.le_of_ble_eq_true rfl) (okc_r rfl rfl (oK hK o33)) (g94 hK hX (by decide) p34 (Bk_v ?_))
            refine r_ifP (P := ¬ (wdL (M 34) p32 e33 = wL 23)) c68_71 bI_eq (fun hc35 => ?_) (fun hc35 => ?_)
            · replace h := h.1 hc35
              refine r_aload_n c68_79 rfl ?_
              refine r_ldcs c68_80 ?_
              obtain ⟨n37, h⟩ := h
              obtain ⟨p38, h⟩ := h
              obtain ⟨e39, h⟩ := h
              obtain ⟨p40, h⟩ := h
              refine r_call c68_82 rfl rfl (Nat.le_of_ble_eq_true rfl) (okc_r rfl rfl (oK hK o33)) (g94 hK hX (by decide) p40 (Bk_v ?_))
              refine r_ifP (P := ¬ (wdL (M 34) p38 e39 = wL 24)) c68_85 bI_eq (fun hc41 => ?_) (fun hc41 => ?_)
              · replace h := h.1 hc41
                refine r_iconst c68_93 ?_
                exact r_iret c68_94 (Or.inl rfl) h
              · have hc42 := Classical.not_not.mp hc41
                replace h := h.2 hc42
                refine r_bipush c68_88 ?_
                refine r_goto c68_90 ?_
                exact r_iret c68_94 (Or.inl rfl) h
            · have hc36 := Classical.not_not.mp hc35
              replace h := h.2 hc36
              refine r_bipush c68_74 ?_
              refine r_goto c68_76 ?_
              exact r_iret c68_94 (Or.inl rfl) h
          · have hc30 := Classical.not_not.mp hc29
            replace h := h.2 hc30
            refine r_iconst c68_61 ?_
            refine r_goto c68_62 ?_
            exact r_iret c68_94 (Or.inl rfl) h
        · have hc24 := Classical.not_not.mp hc23
          replace h := h.2 hc24
          refine r_iconst c68_48 ?_
          refine r_goto c68_49 ?_
          exact r_iret c68_94 (Or.inl rfl) h
      · have hc18 := Classical.not_not.mp hc17
        replace h := h.2 hc18
        refine r_iconst c68_35 ?_
        refine r_goto c68_36 ?_
        exact r_iret c68_94 (Or.inl rfl) h
    · have hc12 := Classical.not_not.mp hc11
      replace h := h.2 hc12
      refine r_iconst c68_22 ?_
      refine r_goto c68_23 ?_
      exact r_iret c68_94 (Or.inl rfl) h
  · have hc6 := Classical.not_not.mp hc5
    replace h := h.2 hc6
    refine r_iconst c68_9 ?_
    refine r_goto c68_10 ?_
    exact r_iret c68_94 (Or.inl rfl) h
theorem g68 {d : Nat} {M : Mem} {K : KK} {Q : RR → Mem → KK → Prop} {n p e : Nat} (hK : K.1 = 923) (hX : FX M) (h : WA n M p e) (k : Q (.inl (some (vI (nmOf (wdL (M 34) p e) [18, 19, 20, 21, 22, 23, 24] 1)))) M K) : Wm (d + 1) 68 [vR 33] M K Q := by
  simp only [nmOf] at k
  refine u68_0 hK hX ⟨n, p, e, h, fun h1 => ⟨n, p, e, h, fun h2 => ⟨n, p, e, h, fun h3 => ⟨n, p, e, h, fun h4 => ⟨n, p, e, h, fun h5 => ⟨n, p, e, h, fun h6 => ⟨n, p, e, h, fun h7 => ?_, fun h7 => ?_⟩, fun h6 => ?_⟩, fun h5 => ?_⟩, fun h4 => ?_⟩, fun h3 => ?_⟩, fun h2 => ?_⟩, fun h1 => ?_⟩
  · rw [if_neg h1, if_neg h2, if_neg h3, if_neg h4, if_neg h5, if_neg h6, if_neg h7] at k; exact k
  · rw [if_neg h1, if_neg h2, if_neg h3, if_neg h4, if_neg h5, if_neg h6, if_pos h7] at k; exact k
  · rw [if_neg h1, if_neg h2, if_neg h3, if_neg h4, if_neg h5, if_pos h6] at k; exact k
  · rw [if_neg h1, if_neg h2, if_neg h3, if_neg h4, if_pos h5] at k; exact k
  · rw [if_neg h1, if_neg h2, if_neg h3, if_pos h4] at k; exact k
  · rw [if_neg h1, if_neg h2, if_pos h3] at k; exact k
  · rw [if_neg h1, if_pos h2] at k; exact k
  · rw [if_pos h1] at k; exact k
abbrev PG : Type := Nat × Mem
abbrev XP : Type := ST × PG
def addP (P : PG) (k a b : Int) : PG := (P.1 + 1, mset (mset (mset (mset P.2 P.1 0 k) P.1 1 a) P.1 2 b) P.1 3 ((P.1 : Int) + 1))
/-- the class's program holds P -/
def PR (M : Mem) (P : PG) : Prop := M 35 4 = (P.1 : Int) ∧ ∀ i, i < P.1 → M 36 i = P.2 i 0 + 1 ∧ M 37 i = P.2 i 1 ∧ M 38 i = P.2 i 2 ∧ M 39 i = P.2 i 3
def FrP (M M' : Mem) : Prop := ∀ a k, ¬ (36 ≤ a ∧ a ≤ 39) → ¬ (a = 35 ∧ 4 ≤ k) → ¬ (a = 33 ∧ 3 ≤ k ∧ k ≤ 7) → M' a k = M a k
theorem FrP.tr {M M1 M2 : Mem} (h1 : FrP M M1) (h2 : FrP M1 M2) : FrP M M2 := fun a k p q r => (h2 a k p q r).trans (h1 a k p q r)
theorem FrT.P {M M' : Mem} (h : FrT M M') : FrP M M' := fun a k _ _ t => h a k t
theorem PR.t {M M' : Mem} {P : PG} (hf : FrT M M') (h : PR M P) : PR M' P := ⟨(hf 35 4 (by decide)).trans h.1, fun i hi => ⟨(hf 36 i (by omega)).trans (h.2 i hi).1, (hf 37 i (by omega)).trans (h.2 i hi).2.1, (hf 38 i (by omega)).trans (h.2 i hi).2.2.1, (hf 39 i (by omega)).trans (h.2 i hi).2.2.2⟩⟩
theorem TR.p {B : BY} {n : Nat} {M M' : Mem} {st : ST} (h : TR B n M st) (hf : ∀ k, M' 33 k = M 33 k) (hf4 : ∀ k, M' 34 k = M 34 k) : TR B n M' st := h.y hf hf4
theorem u69_0 {d : Nat} {l1 : Int} {l2 : Int} {l3 : Int} {M : Mem} {K : KK} {Q : RR → Mem → KK → Prop} (hK : K.1 = 923) (hX : FX M)  (h : (0 ≤ (jmin (M 35 4) (w32 ((150 : Int) - (1 : Int)))) ∧ (jmin (M 35 4) (w32 ((150 : Int) - (1 : Int)))) < (150 : Int)) ∧ (0 ≤ (jmin (M 35 4) (w32 ((150 : Int) - (1 : Int)))) ∧ (jmin (M 35 4) (w32 ((150 : Int) - (1 : Int)))) < (150 : Int)) ∧ (0 ≤ (jmin (M 35 4) (w32 ((150 : Int) - (1 : Int)))) ∧ (jmin (M 35 4) (w32 ((150 : Int) - (1 : Int)))) < (150 : Int)) ∧ (0 ≤ (jmin (M 35 4) (w32 ((150 : Int) - (1 : Int)))) ∧ (jmin (M 35 4) (w32 ((150 : Int) - (1 : Int)))) < (150 : Int)) ∧ Q (.inl (some (vI (jmin (M 35 4) (w32 ((150 : Int) - (1 : Int))))))) (mset (mset (mset (mset (mset M 36 (Int.toNat (jmin (M 35 4) (w32 ((150 : Int) - (1 : Int))))) l1) 37 (Int.toNat (jmin (M 35 4) (w32 ((150 : Int) - (1 : Int))))) l2) 38 (Int.toNat (jmin (M 35 4) (w32 ((150 : Int) - (1 : Int))))) l3) 39 (Int.toNat (jmin (M 35 4) (w32 ((150 : Int) - (1 : Int))))) (w32 ((jmin (M 35 4) (w32 ((150 : Int) - (1 : Int)))) + (1 : Int)))) 35 4 (w32 ((jmin (M 35 4) (w32 ((150 : Int) - (1 : Int)))) + (1 : Int)))) K) : Wp d 69 0 [vR 35, vI l1, vI l2, vI l3, vU] [] M K Q := by
  refine r_aload_n c69_0 rfl ?_
  refine r_getIe c69_1 (oK hK o35) rfl ?_
  refine r_aload_n c69_4 rfl ?_
  refine r_getR c69_5 (oK hK o35) (FX.get (b := 36) hX (by decide) (by decide +kernel) (by decide)) (by decide) ?_
  refine r_alene c69_8 (mal o36 rfl hK) l36 ?_
  refine r_iconst c69_9 ?_
  refine r_isub c69_10 ?_
  refine r_min c69_11 (Nat.le_of_ble_eq_true rfl) ?_
  refine r_istore c69_14 (Nat.le_of_ble_eq_true rfl) ?_
  refine r_aload_n c69_16 rfl ?_
  refine r_getR c69_17 (oK hK o35) (FX.get (b := 36) hX (by decide) (by decide +kernel) (by decide)) (by decide) ?_
  refine r_iload c69_20 rfl ?_
  refine r_iload_n c69_22 rfl ?_
  obtain ⟨s1, h⟩ := h
  refine r_ias c69_23 (oK hK o36) (bd l36 s1) ?_
  have x2 := FX.set (v := l1) (a := 36) (k := (Int.toNat (jmin (M 35 4) (w32 ((150 : Int) - (1 : Int)))))) hX (nfa o36 _)
  refine r_aload_n c69_24 rfl ?_
  refine r_getR c69_25 (oK hK o35) (FX.get (b := 37) x2 (by decide) (by decide +kernel) (by decide)) (by decide) ?_
  refine r_iload c69_28 rfl ?_
  refine r_iload_n c69_30 rfl ?_
  obtain ⟨s3, h⟩ := h
  refine r_ias c69_31 (oK hK o37) (bd l37 s3) ?_
  have x4 := FX.set (v := l2) (a := 37) (k := (Int.toNat (jmin (M 35 4) (w32 ((150 : Int) - (1 : Int)))))) x2 (nfa o37 _)
  refine r_aload_n c69_32 rfl ?_
  refine r_getR c69_33 (oK hK o35) (FX.get (b := 38) x4 (by decide) (by decide +kernel) (by decide)) (by decide) ?_
  refine r_iload c69_36 rfl ?_
  refine r_iload_n c69_38 rfl ?_
  obtain ⟨s5, h⟩ := h
  refine r_ias c69_39 (oK hK o38) (bd l38 s5) ?_
  have x6 := FX.set (v := l3) (a := 38) (k := (Int.toNat (jmin (M 35 4) (w32 ((150 : Int) - (1 : Int)))))) x4 (nfa o38 _)
  refine r_aload_n c69_40 rfl ?_
  refine r_getR c69_41 (oK hK o35) (FX.get (b := 39) x6 (by decide) (by decide +kernel) (by decide)) (by decide) ?_
  refine r_iload c69_44 rfl ?_
  refine r_iload c69_46 rfl ?_
  refine r_iconst c69_48 ?_
  refine r_iadd c69_49 ?_
  obtain ⟨s7, h⟩ := h
  refine r_ias c69_50 (oK hK o39) (bd l39 s7) ?_
  have x8 := FX.set (v := (w32 ((jmin (M 35 4) (w32 ((150 : Int) - (1 : Int)))) + (1 : Int)))) (a := 39) (k := (Int.toNat (jmin (M 35 4) (w32 ((150 : Int) - (1 : Int)))))) x6 (nfa o39 _)
  refine r_aload_n c69_51 rfl ?_
  refine r_iload c69_52 rfl ?_
  refine r_iconst c69_54 ?_
  refine r_iadd c69_55 ?_
  refine r_putI c69_56 (oK hK o35) ?_
  have x9 := FX.set (v := (w32 ((jmin (M 35 4) (w32 ((150 : Int) - (1 : Int)))) + (1 : Int)))) (a := 35) (k := 4) x8 (by decide +kernel)
  refine r_iload c69_59 rfl ?_
  exact r_iret c69_61 (Or.inl rfl) h
section PA
variable {d : Nat} {M : Mem} {K : KK} {Q : RR → Mem → KK → Prop}
theorem g69 {P : PG} {u a b : Int} (hK : K.1 = 923) (hX : FX M) (h : PR M P ∧ P.1 < 149) (k : ∀ M', FX M' → (FrP M M' ∧ PR M' (addP P (u - 1) a b) ∧ (∀ j, M' 33 j = M 33 j)) → Q (.inl (some (vI (P.1 : Int)))) M' K) : Wm d 69 [vR 35, vI u, vI a, vI b] M K Q := by
  obtain ⟨⟨h1, h2⟩, hb⟩ := h
  have e1 : jmin (M 35 4) (w32 (150 - 1)) = (P.1 : Int) := by rw [h1, w32_id (by omega), jmin_eq]; omega
  have e2 : w32 ((P.1 : Int) + 1) = ((P.1 + 1 : Nat) : Int) := w1 (by omega)
  refine u69_0 hK hX ?_
  rw [e1, e2]
  simp only [Int.toNat_natCast]
  refine ⟨by omega, by omega, by omega, by omega, ?_⟩
  refine k _ (((((hX.set (nfa o36 _)).set (nfa o37 _)).set (nfa o38 _)).set (nfa o39 _)).set (by decide +kernel)) ⟨?_, ⟨?_, fun i hi => ?_⟩, fun j => ?_⟩
  · intro a j p q r
    simp only [mset]
    rw [if_neg (by omega), if_neg (by omega), if_neg (by omega), if_neg (by omega), if_neg (by omega)]
  · rw [ms_eq]; rfl
  · have hi : i < P.1 + 1 := hi
    have h9 := h2 i
    have e : u - 1 + 1 = u := by omega
    simp only [addP, mset]
    by_cases hii : i = P.1
    · subst hii; simp [e]
    · have := h9 (by omega)
      simp [hii]; exact this
  · simp [mset]
end PA
theorem u65_0 {d : Nat} {l2 : Nat} {l3 : Int} {M : Mem} {K : KK} {Q : RR → Mem → KK → Prop} (hK : K.1 = 923) (hX : FX M) (k2 : isO 923 l2 0 = true) (h : Wp (d + 2) 65 3 [vR 35, vR 33, vR l2, vI l3, vI (0 : Int), vU] [] M K Q) : Wp (d + 2) 65 0 [vR 35, vR 33, vR l2, vI l3, vU, vU] [] M K Q := by
  refine r_iconst c65_0 ?_
  refine r_istore c65_1 (Nat.le_of_ble_eq_true rfl) ?_
  exact h
theorem u65_3 {d : Nat} {l2 : Nat} {l3 : Int} {l4 : Int} {l5 : PV} {M : Mem} {K : KK} {Q : RR → Mem → KK → Prop} (hK : K.1 = 923) (hX : FX M) (k2 : isO 923 l2 0 = true) (h : ((150 : Int) ≤ l4 → Q (.inl none) M K) ∧ (¬ ((150 : Int) ≤ l4) → ∃ B2 : BY, ∃ n3 : Nat, ∃ st4 : ST, TR B2 n3 M st4 ∧ (∀ (M8 : Mem), FX M8 → (FrT M M8 ∧ TR B2 n3 M8 st4 ∧ AtE M8 st4) → ((pk B2 n3 st4) = (-1 : Int) → Q (.inl none) M8 K) ∧ (¬ ((pk B2 n3 st4) = (-1 : Int)) → (l3 ≤ (0 : Int) → Wm (d + 1) 66 [vR 35, vR 33, vR l2, vI l3] M8 K (Bk (d + 1) 65 39 42 66 [vR 35, vR 33, vR l2, vI l3, vI l4, vI (pk B2 n3 st4)] [] Q)) ∧ (¬ (l3 ≤ (0 : Int)) → (¬ (pk B2 n3 st4) = (93 : Int) → Wm (d + 1) 66 [vR 35, vR 33, vR l2, vI l3] M8 K (Bk (d + 1) 65 39 42 66 [vR 35, vR 33, vR l2, vI l3, vI l4, vI (pk B2 n3 st4)] [] Q)) ∧ ((pk B2 n3 st4) = (93 : Int) → Q (.inl none) M8 K)))))) : Wp (d + 2) 65 3 [vR 35, vR 33, vR l2, vI l3, vI l4, l5] [] M K Q := by
  refine r_iload c65_3 rfl ?_
  refine r_sipush c65_5 ?_
  refine r_icmpP (P := (150 : Int) ≤ l4) c65_8 rfl (fun hc1 => ?_) (fun hc1 => ?_)
  · replace h := h.1 hc1
    exact r_ret c65_54 h
  · replace h := h.2 hc1
    refine r_aload_n c65_11 rfl ?_
    obtain ⟨B2, h⟩ := h
    obtain ⟨n3, h⟩ := h
    obtain ⟨st4, h⟩ := h
    obtain ⟨p5, h⟩ := h
    refine r_call c65_12 rfl rfl (Nat.le_of_ble_eq_true rfl) (okc_r rfl rfl (oK hK o33)) (g88 hK hX p5 (fun M8 x6 p7 => Bk_v ?_))
    replace h := h M8 x6 p7
    refine r_istore c65_15 (Nat.le_of_ble_eq_true rfl) ?_
    refine r_iload c65_17 rfl ?_
    refine r_iconst c65_19 ?_
    refine r_icmpP (P := (pk B2 n3 st4) = (-1 : Int)) c65_20 rfl (fun hc9 => ?_) (fun hc9 => ?_)
    · replace h := h.1 hc9
      exact r_ret c65_34 h
    · replace h := h.2 hc9
      refine r_iload_n c65_23 rfl ?_
      refine r_ifP (P := l3 ≤ (0 : Int)) c65_24 rfl (fun hc10 => ?_) (fun hc10 => ?_)
      · replace h := h.1 hc10
        refine r_aload_n c65_35 rfl ?_
        refine r_aload_n c65_36 rfl ?_
        refine r_aload_n c65_37 rfl ?_
        refine r_iload_n c65_38 rfl ?_
        exact r_call c65_39 rfl rfl (Nat.le_of_ble_eq_true rfl) (okc_r rfl rfl (oK hK o35)) h
      · replace h := h.2 hc10
        refine r_iload c65_27 rfl ?_
        refine r_bipush c65_29 ?_
        refine r_icmpP (P := ¬ (pk B2 n3 st4) = (93 : Int)) c65_31 rfl (fun hc11 => ?_) (fun hc11 => ?_)
        · replace h := h.1 hc11
          refine r_aload_n c65_35 rfl ?_
          refine r_aload_n c65_36 rfl ?_
          refine r_aload_n c65_37 rfl ?_
          refine r_iload_n c65_38 rfl ?_
          exact r_call c65_39 rfl rfl (Nat.le_of_ble_eq_true rfl) (okc_r rfl rfl (oK hK o35)) h
        · have hc12 := Classical.not_not.mp hc11
          replace h := h.2 hc12
          exact r_ret c65_34 h
theorem u65_42 {d : Nat} {l2 : Nat} {l3 : Int} {l4 : Int} {l5 : Int} {M : Mem} {K : KK} {Q : RR → Mem → KK → Prop} (hK : K.1 = 923) (hX : FX M) (k2 : isO 923 l2 0 = true) (h : ∃ B1 : BY, ∃ n2 : Nat, ∃ st3 : ST, (TR B1 n2 M st3 ∧ (59 : Int) ≠ -1) ∧ (∀ (M7 : Mem), FX M7 → (FrT M M7 ∧ TR B1 n2 M7 (tSign B1 n2 (59 : Int) st3)) → Wp (d + 2) 65 3 [vR 35, vR 33, vR l2, vI l3, vI (w32 (l4 + 1)), vI l5] [] M7 K Q)) : Wp (d + 2) 65 42 [vR 35, vR 33, vR l2, vI l3, vI l4, vI l5] [] M K Q := by
  refine r_aload_n c65_42 rfl ?_
  refine r_bipush c65_43 ?_
  obtain ⟨B1, h⟩ := h
  obtain ⟨n2, h⟩ := h
  obtain ⟨st3, h⟩ := h
  obtain ⟨p4, h⟩ := h
  refine r_call c65_45 rfl rfl (Nat.le_of_ble_eq_true rfl) (okc_r rfl rfl (oK hK o33)) (g91 hK hX p4 (fun M7 x5 p6 => Bk_n ?_))
  replace h := h M7 x5 p6
  refine r_iinc c65_48 rfl ?_
  refine r_goto c65_51 ?_
  exact h
theorem u66_0 {d : Nat} {l2 : Nat} {l3 : Int} {M : Mem} {K : KK} {Q : RR → Mem → KK → Prop} (hK : K.1 = 923) (hX : FX M) (k2 : isO 923 l2 0 = true) (h : ∃ B1 : BY, ∃ n2 : Nat, ∃ st3 : ST, TR B1 n2 M st3 ∧ (∀ (M7 : Mem), FX M7 → (FrT M M7 ∧ TR B1 n2 M7 (tWord B1 n2 st3) ∧ ∃ p e, WA n2 M7 p e ∧ WQ B1 n2 st3 p e) → ∃ n8 : Nat, ∃ p9 : Nat, ∃ e10 : Nat, WA n8 M7 p9 e10 ∧ (¬ (nmOf (wdL (M7 34) p9 e10) [18, 19, 20, 21, 22, 23, 24] 1) = (-1 : Int) → (¬ (nmOf (wdL (M7 34) p9 e10) [18, 19, 20, 21, 22, 23, 24] 1) = (7 : Int) → (¬ (nmOf (wdL (M7 34) p9 e10) [18, 19, 20, 21, 22, 23, 24] 1) = (6 : Int) → (¬ (nmOf (wdL (M7 34) p9 e10) [18, 19, 20, 21, 22, 23, 24] 1) = (5 : Int) → ∃ B20 : BY, ∃ n21 : Nat, ∃ st22 : ST, TR B20 n21 M7 st22 ∧ (∀ (M26 : Mem), FX M26 → (FrT M7 M26 ∧ TR B20 n21 M26 (tNum B20 n21 (0 : Int) (w32 ((M7 l2 6) - (1 : Int))) st22).2) → Wp (d + 3) 66 76 [vR 35, vR 33, vR l2, vI l3, vI (nmOf (wdL (M7 34) p9 e10) [18, 19, 20, 21, 22, 23, 24] 1), vU, vU] [vI ((tNum B20 n21 (0 : Int) (w32 ((M7 l2 6) - (1 : Int))) st22).1)] M26 K Q)) ∧ ((nmOf (wdL (M7 34) p9 e10) [18, 19, 20, 21, 22, 23, 24] 1) = (5 : Int) → ∃ B27 : BY, ∃ n28 : Nat, ∃ st29 : ST, TR B27 n28 M7 st29 ∧ (∀ (M33 : Mem), FX M33 → (FrT M7 M33 ∧ TR B27 n28 M33 (tNum B27 n28 (0 : Int) (w32 ((M7 l2 5) - (1 : Int))) st29).2) → Wp (d + 3) 66 76 [vR 35, vR 33, vR l2, vI l3, vI (nmOf (wdL (M7 34) p9 e10) [18, 19, 20, 21, 22, 23, 24] 1), vU, vU] [vI ((tNum B27 n28 (0 : Int) (w32 ((M7 l2 5) - (1 : Int))) st29).1)] M33 K Q))) ∧ ((nmOf (wdL (M7 34) p9 e10) [18, 19, 20, 21, 22, 23, 24] 1) = (6 : Int) → Wp (d + 3) 66 76 [vR 35, vR 33, vR l2, vI l3, vI (nmOf (wdL (M7 34) p9 e10) [18, 19, 20, 21, 22, 23, 24] 1), vU, vU] [vI (0 : Int)] M7 K Q)) ∧ ((nmOf (wdL (M7 34) p9 e10) [18, 19, 20, 21, 22, 23, 24] 1) = (7 : Int) → Wm (d + 2) 67 [vR 35, vR 33, vR l2, vI l3] M7 K (Bk (d + 2) 66 35 38 67 [vR 35, vR 33, vR l2, vI l3, vI (nmOf (wdL (M7 34) p9 e10) [18, 19, 20, 21, 22, 23, 24] 1), vU, vU] [] Q))) ∧ ((nmOf (wdL (M7 34) p9 e10) [18, 19, 20, 21, 22, 23, 24] 1) = (-1 : Int) → ∃ B34 : BY, ∃ n35 : Nat, ∃ st36 : ST, ∃ p37 : Nat, ∃ e38 : Nat, (TR B34 n35 M7 st36 ∧ (1 : Int) ≠ 0 ∧ WA n35 M7 p37 e38) ∧ (∀ (M42 : Mem), FX M42 → (FrT M7 M42 ∧ TR B34 n35 M42 (tFail (1 : Int) (p37 : Int) st36)) → Q (.inl none) M42 K)))) : Wp (d + 3) 66 0 [vR 35, vR 33, vR l2, vI l3, vU, vU, vU] [] M K Q := by
  refine r_aload_n c66_0 rfl ?_
  obtain ⟨B1, h⟩ := h
  obtain ⟨n2, h⟩ := h
  obtain ⟨st3, h⟩ := h
  obtain ⟨p4, h⟩ := h
  refine r_call c66_1 rfl rfl (Nat.le_of_ble_eq_true rfl) (okc_r rfl rfl (oK hK o33)) (g93 hK hX p4 (fun M7 x5 p6 => Bk_n ?_))
  replace h := h M7 x5 p6
  refine r_aload_n c66_4 rfl ?_
  obtain ⟨n8, h⟩ := h
  obtain ⟨p9, h⟩ := h
  obtain ⟨e10, h⟩ := h
  obtain ⟨p11, h⟩ := h
  refine r_call c66_5 rfl rfl (Nat.le_of_ble_eq_true rfl) (okc_s rfl rfl rfl) (g68 hK x5 p11 (Bk_v ?_))
  refine r_istore c66_8 (Nat.le_of_ble_eq_true rfl) ?_
  refine r_iload c66_10 rfl ?_
  refine r_iconst c66_12 ?_
  refine r_icmpP (P := ¬ (nmOf (wdL (M7 34) p9 e10) [18, 19, 20, 21, 22, 23, 24] 1) = (-1 : Int)) c66_13 rfl (fun hc12 => ?_) (fun hc12 => ?_)
  · replace h := h.1 hc12
    refine r_iload c66_24 rfl ?_
    refine r_bipush c66_26 ?_
    refine r_icmpP (P := ¬ (nmOf (wdL (M7 34) p9 e10) [18, 19, 20, 21, 22, 23, 24] 1) = (7 : Int)) c66_28 rfl (fun hc14 => ?_) (fun hc14 => ?_)
    · replace h := h.1 hc14
      refine r_iload c66_41 rfl ?_
      refine r_bipush c66_43 ?_
      refine r_icmpP (P := ¬ (nmOf (wdL (M7 34) p9 e10) [18, 19, 20, 21, 22, 23, 24] 1) = (6 : Int)) c66_45 rfl (fun hc16 => ?_) (fun hc16 => ?_)
      · replace h := h.1 hc16
        refine r_aload_n c66_52 rfl ?_
        refine r_iconst c66_53 ?_
        refine r_iload c66_54 rfl ?_
        refine r_iconst c66_56 ?_
        refine r_icmpP (P := ¬ (nmOf (wdL (M7 34) p9 e10) [18, 19, 20, 21, 22, 23, 24] 1) = (5 : Int)) c66_57 rfl (fun hc18 => ?_) (fun hc18 => ?_)
        · replace h := h.1 hc18
          refine r_aload_n c66_67 rfl ?_
          refine r_getIe c66_68 (oK hK k2) rfl ?_
          refine r_iconst c66_71 ?_
          refine r_isub c66_72 ?_
          obtain ⟨B20, h⟩ := h
          obtain ⟨n21, h⟩ := h
          obtain ⟨st22, h⟩ := h
          obtain ⟨p23, h⟩ := h
          refine r_call c66_73 rfl rfl (Nat.le_of_ble_eq_true rfl) (okc_r rfl rfl (oK hK o33)) (g92 hK x5 p23 (fun M26 x24 p25 => Bk_v ?_))
          replace h := h M26 x24 p25
          exact h
        · have hc19 := Classical.not_not.mp hc18
          replace h := h.2 hc19
          refine r_aload_n c66_60 rfl ?_
          refine r_getIe c66_61 (oK hK k2) rfl ?_
          refine r_goto c66_64 ?_
          refine r_iconst c66_71 ?_
          refine r_isub c66_72 ?_
          obtain ⟨B27, h⟩ := h
          obtain ⟨n28, h⟩ := h
          obtain ⟨st29, h⟩ := h
          obtain ⟨p30, h⟩ := h
          refine r_call c66_73 rfl rfl (Nat.le_of_ble_eq_true rfl) (okc_r rfl rfl (oK hK o33)) (g92 hK x5 p30 (fun M33 x31 p32 => Bk_v ?_))
          replace h := h M33 x31 p32
          exact h
      · have hc17 := Classical.not_not.mp hc16
        replace h := h.2 hc17
        refine r_iconst c66_48 ?_
        refine r_goto c66_49 ?_
        exact h
    · have hc15 := Classical.not_not.mp hc14
      replace h := h.2 hc15
      refine r_aload_n c66_31 rfl ?_
      refine r_aload_n c66_32 rfl ?_
      refine r_aload_n c66_33 rfl ?_
      refine r_iload_n c66_34 rfl ?_
      exact r_call c66_35 rfl rfl (Nat.le_of_ble_eq_true rfl) (okc_r rfl rfl (oK hK o35)) h
  · have hc13 := Classical.not_not.mp hc12
    replace h := h.2 hc13
    refine r_aload_n c66_16 rfl ?_
    refine r_iconst c66_17 ?_
    obtain ⟨B34, h⟩ := h
    obtain ⟨n35, h⟩ := h
    obtain ⟨st36, h⟩ := h
    obtain ⟨p37, h⟩ := h
    obtain ⟨e38, h⟩ := h
    obtain ⟨p39, h⟩ := h
    refine r_call c66_18 rfl rfl (Nat.le_of_ble_eq_true rfl) (okc_r rfl rfl (oK hK o33)) (g95 hK x5 p39 (fun M42 x40 p41 => Bk_n ?_))
    replace h := h M42 x40 p41
    refine r_goto c66_21 ?_
    exact r_ret c66_112 h
theorem u66_38 {d : Nat} {l2 : Nat} {l3 : Int} {l4 : Int} {M : Mem} {K : KK} {Q : RR → Mem → KK → Prop} (hK : K.1 = 923) (hX : FX M) (k2 : isO 923 l2 0 = true) (h : Q (.inl none) M K) : Wp (d + 3) 66 38 [vR 35, vR 33, vR l2, vI l3, vI l4, vU, vU] [] M K Q := by
  refine r_goto c66_38 ?_
  exact r_ret c66_112 h
theorem u66_76 {d : Nat} {l2 : Nat} {l3 : Int} {l4 : Int} {t0 : Int} {M : Mem} {K : KK} {Q : RR → Mem → KK → Prop} (hK : K.1 = 923) (hX : FX M) (k2 : isO 923 l2 0 = true) (h : (¬ l4 = (1 : Int) → ∃ P3 : PG, (PR M P3 ∧ P3.1 < 149) ∧ (∀ (M7 : Mem), FX M7 → (FrP M M7 ∧ PR M7 (addP P3 (l4 - 1) t0 (0 : Int)) ∧ (∀ j, M7 33 j = M 33 j)) → Q (.inl none) M7 K)) ∧ (l4 = (1 : Int) → ∃ B8 : BY, ∃ n9 : Nat, ∃ st10 : ST, TR B8 n9 M st10 ∧ (∀ (M14 : Mem), FX M14 → (FrT M M14 ∧ TR B8 n9 M14 (tNum B8 n9 (0 : Int) (w32 ((M l2 5) - (1 : Int))) st10).2) → ∃ P15 : PG, (PR M14 P15 ∧ P15.1 < 149) ∧ (∀ (M19 : Mem), FX M19 → (FrP M14 M19 ∧ PR M19 (addP P15 (l4 - 1) t0 ((tNum B8 n9 (0 : Int) (w32 ((M l2 5) - (1 : Int))) st10).1)) ∧ (∀ j, M19 33 j = M14 33 j)) → Q (.inl none) M19 K)))) : Wp (d + 3) 66 76 [vR 35, vR 33, vR l2, vI l3, vI l4, vU, vU] [vI t0] M K Q := by
  refine r_istore c66_76 (Nat.le_of_ble_eq_true rfl) ?_
  refine r_iload c66_78 rfl ?_
  refine r_iconst c66_80 ?_
  refine r_icmpP (P := ¬ l4 = (1 : Int)) c66_81 rfl (fun hc1 => ?_) (fun hc1 => ?_)
  · replace h := h.1 hc1
    refine r_iconst c66_98 ?_
    refine r_istore c66_99 (Nat.le_of_ble_eq_true rfl) ?_
    refine r_aload_n c66_101 rfl ?_
    refine r_iload c66_102 rfl ?_
    refine r_iload c66_104 rfl ?_
    refine r_iload c66_106 rfl ?_
    obtain ⟨P3, h⟩ := h
    obtain ⟨p4, h⟩ := h
    refine r_call c66_108 rfl rfl (Nat.le_of_ble_eq_true rfl) (okc_r rfl rfl (oK hK o35)) (g69 hK hX p4 (fun M7 x5 p6 => Bk_v ?_))
    replace h := h M7 x5 p6
    refine r_popi c66_111 ?_
    exact r_ret c66_112 h
  · have hc2 := Classical.not_not.mp hc1
    replace h := h.2 hc2
    refine r_aload_n c66_84 rfl ?_
    refine r_iconst c66_85 ?_
    refine r_aload_n c66_86 rfl ?_
    refine r_getIe c66_87 (oK hK k2) rfl ?_
    refine r_iconst c66_90 ?_
    refine r_isub c66_91 ?_
    obtain ⟨B8, h⟩ := h
    obtain ⟨n9, h⟩ := h
    obtain ⟨st10, h⟩ := h
    obtain ⟨p11, h⟩ := h
    refine r_call c66_92 rfl rfl (Nat.le_of_ble_eq_true rfl) (okc_r rfl rfl (oK hK o33)) (g92 hK hX p11 (fun M14 x12 p13 => Bk_v ?_))
    replace h := h M14 x12 p13
    refine r_goto c66_95 ?_
    refine r_istore c66_99 (Nat.le_of_ble_eq_true rfl) ?_
    refine r_aload_n c66_101 rfl ?_
    refine r_iload c66_102 rfl ?_
    refine r_iload c66_104 rfl ?_
    refine r_iload c66_106 rfl ?_
    obtain ⟨P15, h⟩ := h
    obtain ⟨p16, h⟩ := h
    refine r_call c66_108 rfl rfl (Nat.le_of_ble_eq_true rfl) (okc_r rfl rfl (oK hK o35)) (g69 hK x12 p16 (fun M19 x17 p18 => Bk_v ?_))
    replace h := h M19 x17 p18
    refine r_popi c66_111 ?_
    exact r_ret c66_112 h
theorem u67_0 {d : Nat} {l2 : Nat} {l3 : Int} {M : Mem} {K : KK} {Q : RR → Mem → KK → Prop} (hK : K.1 = 923) (hX : FX M) (k2 : isO 923 l2 0 = true) (h : (l3 < (6 : Int) → ∃ B2 : BY, ∃ n3 : Nat, ∃ st4 : ST, TR B2 n3 M st4 ∧ (∀ (M8 : Mem), FX M8 → (FrT M M8 ∧ TR B2 n3 M8 (tNum B2 n3 (0 : Int) (30 : Int) st4).2) → ∃ P9 : PG, (PR M8 P9 ∧ P9.1 < 149) ∧ (∀ (M13 : Mem), FX M13 → (FrP M8 M13 ∧ PR M13 (addP P9 ((7 : Int) - 1) ((tNum B2 n3 (0 : Int) (30 : Int) st4).1) (0 : Int)) ∧ (∀ j, M13 33 j = M8 33 j)) → ∃ B14 : BY, ∃ n15 : Nat, ∃ st16 : ST, (TR B14 n15 M13 st16 ∧ (91 : Int) ≠ -1) ∧ (∀ (M20 : Mem), FX M20 → (FrT M13 M20 ∧ TR B14 n15 M20 (tSign B14 n15 (91 : Int) st16)) → Wm (d + 2) 65 [vR 35, vR 33, vR l2, vI (w32 (l3 + (1 : Int)))] M20 K (Bk (d + 2) 67 44 47 65 [vR 35, vR 33, vR l2, vI l3, vI ((tNum B2 n3 (0 : Int) (30 : Int) st4).1), vI (P9.1 : Int)] [] Q))))) ∧ (¬ (l3 < (6 : Int)) → ∃ B21 : BY, ∃ n22 : Nat, ∃ st23 : ST, ∃ p24 : Nat, ∃ e25 : Nat, (TR B21 n22 M st23 ∧ (3 : Int) ≠ 0 ∧ WA n22 M p24 e25) ∧ (∀ (M29 : Mem), FX M29 → (FrT M M29 ∧ TR B21 n22 M29 (tFail (3 : Int) (p24 : Int) st23)) → Q (.inl none) M29 K))) : Wp (d + 3) 67 0 [vR 35, vR 33, vR l2, vI l3, vU, vU] [] M K Q := by
  refine r_iload_n c67_0 rfl ?_
  refine r_bipush c67_1 ?_
  refine r_icmpP (P := l3 < (6 : Int)) c67_3 rfl (fun hc1 => ?_) (fun hc1 => ?_)
  · replace h := h.1 hc1
    refine r_aload_n c67_12 rfl ?_
    refine r_iconst c67_13 ?_
    refine r_bipush c67_14 ?_
    obtain ⟨B2, h⟩ := h
    obtain ⟨n3, h⟩ := h
    obtain ⟨st4, h⟩ := h
    obtain ⟨p5, h⟩ := h
    refine r_call c67_16 rfl rfl (Nat.le_of_ble_eq_true rfl) (okc_r rfl rfl (oK hK o33)) (g92 hK hX p5 (fun M8 x6 p7 => Bk_v ?_))
    replace h := h M8 x6 p7
    refine r_istore c67_19 (Nat.le_of_ble_eq_true rfl) ?_
    refine r_aload_n c67_21 rfl ?_
    refine r_bipush c67_22 ?_
    refine r_iload c67_24 rfl ?_
    refine r_iconst c67_26 ?_
    obtain ⟨P9, h⟩ := h
    obtain ⟨p10, h⟩ := h
    refine r_call c67_27 rfl rfl (Nat.le_of_ble_eq_true rfl) (okc_r rfl rfl (oK hK o35)) (g69 hK x6 p10 (fun M13 x11 p12 => Bk_v ?_))
    replace h := h M13 x11 p12
    refine r_istore c67_30 (Nat.le_of_ble_eq_true rfl) ?_
    refine r_aload_n c67_32 rfl ?_
    refine r_bipush c67_33 ?_
    obtain ⟨B14, h⟩ := h
    obtain ⟨n15, h⟩ := h
    obtain ⟨st16, h⟩ := h
    obtain ⟨p17, h⟩ := h
    refine r_call c67_35 rfl rfl (Nat.le_of_ble_eq_true rfl) (okc_r rfl rfl (oK hK o33)) (g91 hK x11 p17 (fun M20 x18 p19 => Bk_n ?_))
    replace h := h M20 x18 p19
    refine r_aload_n c67_38 rfl ?_
    refine r_aload_n c67_39 rfl ?_
    refine r_aload_n c67_40 rfl ?_
    refine r_iload_n c67_41 rfl ?_
    refine r_iconst c67_42 ?_
    refine r_iadd c67_43 ?_
    exact r_call c67_44 rfl rfl (Nat.le_of_ble_eq_true rfl) (okc_r rfl rfl (oK hK o35)) h
  · replace h := h.2 hc1
    refine r_aload_n c67_6 rfl ?_
    refine r_iconst c67_7 ?_
    obtain ⟨B21, h⟩ := h
    obtain ⟨n22, h⟩ := h
    obtain ⟨st23, h⟩ := h
    obtain ⟨p24, h⟩ := h
    obtain ⟨e25, h⟩ := h
    obtain ⟨p26, h⟩ := h
    refine r_call c67_8 rfl rfl (Nat.le_of_ble_eq_true rfl) (okc_r rfl rfl (oK hK o33)) (g95 hK hX p26 (fun M29 x27 p28 => Bk_n ?_))
    replace h := h M29 x27 p28
    exact r_ret c67_11 h
theorem u67_47 {d : Nat} {l2 : Nat} {l3 : Int} {l4 : Int} {l5 : Int} {M : Mem} {K : KK} {Q : RR → Mem → KK → Prop} (hK : K.1 = 923) (hX : FX M) (k2 : isO 923 l2 0 = true) (h : ∃ B1 : BY, ∃ n2 : Nat, ∃ st3 : ST, (TR B1 n2 M st3 ∧ (93 : Int) ≠ -1) ∧ (∀ (M7 : Mem), FX M7 → (FrT M M7 ∧ TR B1 n2 M7 (tSign B1 n2 (93 : Int) st3)) → (0 ≤ l5 ∧ l5 < (150 : Int)) ∧ Q (.inl none) (mset M7 39 (Int.toNat l5) (M7 35 4)) K)) : Wp (d + 3) 67 47 [vR 35, vR 33, vR l2, vI l3, vI l4, vI l5] [] M K Q := by
  refine r_aload_n c67_47 rfl ?_
  refine r_bipush c67_48 ?_
  obtain ⟨B1, h⟩ := h
  obtain ⟨n2, h⟩ := h
  obtain ⟨st3, h⟩ := h
  obtain ⟨p4, h⟩ := h
  refine r_call c67_50 rfl rfl (Nat.le_of_ble_eq_true rfl) (okc_r rfl rfl (oK hK o33)) (g91 hK hX p4 (fun M7 x5 p6 => Bk_n ?_))
  replace h := h M7 x5 p6
  refine r_aload_n c67_53 rfl ?_
  refine r_getR c67_54 (oK hK o35) (FX.get (b := 39) x5 (by decide) (by decide +kernel) (by decide)) (by decide) ?_
  refine r_iload c67_57 rfl ?_
  refine r_aload_n c67_59 rfl ?_
  refine r_getIe c67_60 (oK hK o35) rfl ?_
  obtain ⟨s8, h⟩ := h
  refine r_ias c67_63 (oK hK o39) (bd l39 s8) ?_
  have x9 := FX.set (v := (M7 35 4)) (a := 39) (k := (Int.toNat l5)) x5 (nfa o39 _)
  exact r_ret c67_64 h
theorem u64_0 {d : Nat} {l2 : Nat} {M : Mem} {K : KK} {Q : RR → Mem → KK → Prop} (hK : K.1 = 923) (hX : FX M) (k2 : isO 923 l2 0 = true) (h : Wm d 65 [vR 35, vR 33, vR l2, vI (0 : Int)] (mset M 35 4 (0 : Int)) K (Bk d 64 9 12 65 [vR 35, vR 33, vR l2] [] Q)) : Wp (d + 1) 64 0 [vR 35, vR 33, vR l2] [] M K Q := by
  refine r_aload_n c64_0 rfl ?_
  refine r_iconst c64_1 ?_
  refine r_putI c64_2 (oK hK o35) ?_
  have x1 := FX.set (v := (0 : Int)) (a := 35) (k := 4) hX (by decide +kernel)
  refine r_aload_n c64_5 rfl ?_
  refine r_aload_n c64_6 rfl ?_
  refine r_aload_n c64_7 rfl ?_
  refine r_iconst c64_8 ?_
  exact r_call c64_9 rfl rfl (Nat.le_of_ble_eq_true rfl) (okc_r rfl rfl (oK hK o35)) h
theorem u64_12 {d : Nat} {l2 : Nat} {M : Mem} {K : KK} {Q : RR → Mem → KK → Prop} (hK : K.1 = 923) (hX : FX M) (k2 : isO 923 l2 0 = true) (h : Q (.inl none) M K) : Wp (d + 1) 64 12 [vR 35, vR 33, vR l2] [] M K Q := by
  exact r_ret c64_12 h
section PS
variable (B : BY) (n : Nat) (nC nS : Int)
/-- the kind of step that is named -/
def stW : ST → Int
  | .inl p => nmOf (wdL B p (sp isS B n p)) [18, 19, 20, 21, 22, 23, 24] 0
  | .inr _ => -1
/-- a step's numbers: first, second, what follows -/
def stN (k : Int) (st : ST) : Int × Int × ST :=
  let y := if k = 5 then (0, st) else tNum B n 0 ((if k = 4 then nC else nS) - 1) st
  let z := if k = 0 then tNum B n 0 (nC - 1) y.2 else (0, y.2)
  (y.1, z.1, z.2)
def agF (S : XP → XP) (st : ST) (P : PG) : XP :=
  let y := tNum B n 0 30 st
  let r := S (tSign B n 91 y.2, addP P 6 y.1 0)
  (tSign B n 93 r.1, (r.2.1, mset r.2.2 P.1 3 (r.2.1 : Int)))
def stF (O : Option (XP → XP)) (x : XP) : XP := match x.1 with
  | .inr f => (.inr f, x.2)
  | .inl p => if stW B n (.inl p) = -1 then (.inr (1, (p : Int)), x.2)
    else if stW B n (.inl p) = 6 then O.elim (.inr (3, (p : Int)), x.2) (fun S => agF B n S (tWord B n (.inl p)) x.2)
    else ((stN B n nC nS (stW B n (.inl p)) (tWord B n (.inl p))).2.2, addP x.2 (stW B n (.inl p)) (stN B n nC nS (stW B n (.inl p)) (tWord B n (.inl p))).1 (stN B n nC nS (stW B n (.inl p)) (tWord B n (.inl p))).2.1)
def ssL (top : Bool) (F : XP → XP) : Nat → XP → XP
  | 0, x => x
  | f + 1, x => if pk B n x.1 = -1 ∨ (top = false ∧ pk B n x.1 = 93) then x else ssL top F f (tSign B n 59 (F x).1, (F x).2)
/-- steps in brackets with r more brackets to open -/
def pSt : Nat → XP → XP
  | 0 => ssL B n false (stF B n nC nS none) 150
  | r + 1 => ssL B n false (stF B n nC nS (some (pSt r))) 150
def pPrg : XP := ssL B n true (stF B n nC nS (some (pSt B n nC nS 5))) 150 (.inl (sk B n 0), (0, fun _ _ => 0))
end PS
/-- so many steps as signs read allow -/
def G3 (x : XP) : Prop := (∀ p, x.1 = .inl p → 3 * x.2.1 ≤ p) ∧ x.2.1 ≤ 51
def GS (B : BY) (n : Nat) (F : XP → XP) : Prop := ∀ x : XP, STw B n x.1 → G3 x → STw B n (F x).1 ∧ G3 (F x) ∧ (∀ p q, x.1 = .inl p → (F x).1 = .inl q → p ≤ q) ∧ x.2.1 ≤ (F x).2.1
/-- behind a fault nothing is read -/
def FLP (F : XP → XP) : Prop := ∀ f P, F (.inr f, P) = (.inr f, P)
section PG
variable {B : BY} {n : Nat} {nC nS : Int}
theorem stW_rg {st : ST} : stW B n st = -1 ∨ (0 ≤ stW B n st ∧ stW B n st ≤ 6 ∧ ∃ p a, st = .inl p ∧ wdL B p (sp isS B n p) = wL a ∧ 18 ≤ a ∧ a ≤ 24) := by
  cases st with
  | inr f => exact Or.inl rfl
  | inl p =>
    rcases nmOf_lt (w := wdL B p (sp isS B n p)) [18, 19, 20, 21, 22, 23, 24] 0 with h | ⟨h1, h2, a, ha, hw⟩
    · exact Or.inl h
    · simp only [List.length_cons, List.length_nil] at h2
      refine Or.inr ⟨h1, ?_, p, a, rfl, hw, ?_⟩
      · show nmOf (wdL B p (sp isS B n p)) [18, 19, 20, 21, 22, 23, 24] 0 ≤ 6
        omega
      · simp at ha; omega
/-- a later place, or a fault -/
def LE (a b : ST) : Prop := ∀ p q, a = .inl p → b = .inl q → p ≤ q
theorem num_le {lo hi : Int} {st : ST} : LE st (tNum B n lo hi st).2 := by
  intro p q hp hq
  subst hp
  simp only [tNum] at hq
  split at hq
  · rename_i h
    split at hq
    · cases hq
    · have e9 : sp isB B n (sp isD B n p) = q := Sum.inl.inj hq
      have h1 := sp_ge (P := isD) (B := B) (n := n) (p := p) (by omega)
      have h2 := (sp_ge (P := isB) (B := B) (n := n) (p := sp isD B n p) (by omega)).1
      omega
  · cases hq
theorem sign_le {c : Int} {st : ST} : ∀ p q, st = .inl p → tSign B n c st = .inl q → p + 1 ≤ q := by
  intro p q hp hq
  subst hp
  simp only [tSign] at hq
  split at hq
  · have e9 : sp isB B n (p + 1) = q := Sum.inl.inj hq
    have := (sp_ge (P := isB) (B := B) (n := n) (p := p + 1) (by omega)).1
    omega
  · cases hq
theorem word3 {p a q : Nat} (hp : p ≤ n) (hw : wdL B p (sp isS B n p) = wL a) (ha : 18 ≤ a ∧ a ≤ 24) (hq : tWord B n (.inl p) = .inl q) : p + 3 ≤ q := by
  have e9 : sp isB B n (sp isS B n p) = q := Sum.inl.inj hq
  have h1 := sp_ge (P := isS) (B := B) (n := n) (p := p) hp
  have h2 := (sp_ge (P := isB) (B := B) (n := n) (p := sp isS B n p) h1.2).1
  have h3 : ∀ a, a < 25 → 18 ≤ a → 3 ≤ (wL a).length := by decide +kernel
  have h4 := congrArg List.length hw
  rw [wdL_len] at h4
  have := h3 a (by omega) ha.1
  omega
theorem stN_w {k : Int} {st : ST} (h : STw B n st) : STw B n (stN B n nC nS k st).2.2 ∧ LE st (stN B n nC nS k st).2.2 := by
  have hy : STw B n (if k = 5 then ((0 : Int), st) else tNum B n 0 ((if k = 4 then nC else nS) - 1) st).2 ∧ LE st (if k = 5 then ((0 : Int), st) else tNum B n 0 ((if k = 4 then nC else nS) - 1) st).2 := by
    split
    · exact ⟨h, fun p q h1 h2 => by rw [h1] at h2; cases h2; omega⟩
    · exact ⟨w_num h, num_le⟩
  simp only [stN]
  by_cases hk : k = 0
  · simp only [if_pos hk]
    refine ⟨w_num hy.1, fun p q h1 h2 => ?_⟩
    obtain ⟨r, hr⟩ := tNum_ok h2
    have := hy.2 p r h1 hr
    have := num_le r q hr h2
    omega
  · simp only [if_neg hk]
    exact hy
theorem stF_g {O : Option (XP → XP)} (hn : n ≤ 150) (hO : ∀ S, O = some S → GS B n S ∧ FLP S) : GS B n (stF B n nC nS O) := by
  rintro ⟨st, P⟩ hw hg
  dsimp only at hw
  cases st with
  | inr f => exact ⟨hw, ⟨(fun p hp => by simp [stF] at hp), hg.2⟩, (fun p q hp => by cases hp), Nat.le_refl _⟩
  | inl p =>
    have hg1 := hg.1 p rfl
    dsimp only at hg1
    have hpn := hw.1
    have flt : ∀ (k : Int), k ≠ 0 → STw B n (Sum.inr (k, (p : Int))) ∧ G3 (.inr (k, (p : Int)), P) ∧ (∀ p' q, (Sum.inl p : ST) = .inl p' → (Sum.inr (k, (p : Int)) : ST) = .inl q → p' ≤ q) ∧ P.1 ≤ P.1 := fun k hk => ⟨hk, ⟨(fun q hq => by cases hq), hg.2⟩, (fun _ _ _ h => by cases h), Nat.le_refl _⟩
    simp only [stF]
    split
    · exact flt 1 (by decide)
    · rename_i h1
      rcases stW_rg (B := B) (n := n) (st := .inl p) with h | ⟨-, -, p', a, hp', hwa, ha⟩
      · exact absurd h h1
      · cases hp'
        have hww := w_word (B := B) (n := n) hw
        have hw1 := hw.1
        split
        · cases O with
          | none => exact flt 3 (by decide)
          | some S =>
            obtain ⟨hS, hF⟩ := hO S rfl
            simp only [Option.elim, agF]
            have hy := w_num (lo := 0) (hi := 30) hww
            have hz := w_sign (c := 91) hy
            have hq0 : ∀ q, tSign B n 91 (tNum B n 0 30 (tWord B n (.inl p))).2 = .inl q → p + 4 ≤ q := by
              intro q hq
              obtain ⟨q1, e1⟩ := sign_ok hq
              obtain ⟨q2, e2⟩ := tNum_ok e1
              have := sign_le q1 q e1 hq
              have := num_le q2 q1 e2 e1
              have := word3 hw1 hwa ha e2
              omega
            have hr := hS (tSign B n 91 (tNum B n 0 30 (tWord B n (.inl p))).2, addP P 6 (tNum B n 0 30 (tWord B n (.inl p))).1 0) hz ⟨fun q hq => by
              have := hq0 q hq
              simp only [addP]; omega, by simp only [addP]; omega⟩
            generalize hrr : S (tSign B n 91 (tNum B n 0 30 (tWord B n (.inl p))).2, addP P 6 (tNum B n 0 30 (tWord B n (.inl p))).1 0) = r at hr
            obtain ⟨r1, ⟨r2, r3⟩, r4, r5⟩ := hr
            refine ⟨w_sign r1, ⟨fun q hq => ?_, r3⟩, fun p' q hp hq => ?_, ?_⟩
            · obtain ⟨q1, e1⟩ := sign_ok hq
              have := sign_le q1 q e1 hq
              have := r2 q1 e1
              dsimp only; omega
            · cases hp
              obtain ⟨q1, e1⟩ := sign_ok hq
              have := sign_le q1 q e1 hq
              cases hh : tSign B n 91 (tNum B n 0 30 (tWord B n (.inl p))).2 with
              | inr f =>
                exfalso
                rw [hh, hF] at hrr
                rw [← hrr] at e1
                cases e1
              | inl q0 =>
                have := r4 q0 q1 hh e1
                have := hq0 q0 hh
                omega
            · simp only [addP] at r5; omega
        · have hN := stN_w (nC := nC) (nS := nS) (k := stW B n (.inl p)) hww
          have hle : ∀ q, (stN B n nC nS (stW B n (.inl p)) (tWord B n (.inl p))).2.2 = .inl q → p + 3 ≤ q := by
            intro q hq
            have := hN.2 (sk B n (sp isS B n p)) q rfl hq
            have := word3 (q := sk B n (sp isS B n p)) hw1 hwa ha rfl
            omega
          refine ⟨hN.1, ⟨fun q hq => ?_, by simp only [addP]; omega⟩, fun p' q hp hq => ?_, by simp only [addP]; omega⟩
          · have := hle q hq
            simp only [addP]; omega
          · cases hp
            have := hle q hq
            omega
theorem stF_FL {O : Option (XP → XP)} : FLP (stF B n nC nS O) := fun f P => rfl
theorem ssL_FL {top : Bool} {F : XP → XP} : ∀ f, FLP (ssL B n top F f) := by
  intro f
  cases f with
  | zero => intro g P; rfl
  | succ f => intro g P; simp only [ssL]; rw [if_pos (show pk B n (Sum.inr g) = -1 ∨ _ from Or.inl rfl)]
theorem ssL_g {top : Bool} {F : XP → XP} (hF : GS B n F) (hL : FLP F) : ∀ f, GS B n (ssL B n top F f) := by
  intro f
  induction f with
  | zero => intro x hw hg; exact ⟨hw, hg, (fun p q h1 h2 => by have h2 : x.1 = .inl q := h2; rw [h1] at h2; cases h2; omega), Nat.le_refl _⟩
  | succ f ih =>
    intro x hw hg
    simp only [ssL]
    split
    · exact ⟨hw, hg, (fun p q h1 h2 => by rw [h1] at h2; cases h2; omega), Nat.le_refl _⟩
    · obtain ⟨h1, h2, h3, h4⟩ := hF x hw hg
      have g2 : G3 (tSign B n 59 (F x).1, (F x).2) := ⟨fun q hq => by
        obtain ⟨q1, e1⟩ := sign_ok hq
        have := sign_le q1 q e1 hq
        have := h2.1 q1 e1
        dsimp only; omega, h2.2⟩
      obtain ⟨i1, i2, i3, i4⟩ := ih (tSign B n 59 (F x).1, (F x).2) (w_sign h1) g2
      refine ⟨i1, i2, fun p q hp hq => ?_, Nat.le_trans h4 i4⟩
      cases hh : tSign B n 59 (F x).1 with
      | inr g => rw [hh, ssL_FL] at hq; cases hq
      | inl r =>
        obtain ⟨r1, e1⟩ := sign_ok hh
        have := i3 r q hh hq
        have := sign_le r1 r e1 hh
        have := h3 p r1 hp e1
        omega
theorem pSt_g (hn : n ≤ 150) : ∀ r, GS B n (pSt B n nC nS r) ∧ FLP (pSt B n nC nS r) := by
  intro r
  induction r with
  | zero => exact ⟨ssL_g (stF_g hn (fun S h => by cases h)) stF_FL 150, ssL_FL 150⟩
  | succ r ih => exact ⟨ssL_g (stF_g hn (fun S h => by cases h; exact ih)) stF_FL 150, ssL_FL 150⟩
/-! the class's steps -/
theorem CC.p {M M' : Mem} {cm : Nat} {c : Mem} (hcm : isO 923 cm 0 = true) (hf : FrP M M') (h : CC M cm c) : CC M' cm c := by
  have hr := rg0 hcm
  exact ⟨fun k hk => (hf cm (5 + k) (by omega) (by omega) (by omega)).trans (h.1 k hk), fun a h1 h2 i hi => (hf (cm + a) i (by omega) (by omega) (by omega)).trans (h.2 a h1 h2 i hi)⟩
def CtP (B : BY) (n cm D m : Nat) (nC nS : Int) (ar : List PV) (F : XP → XP) : Prop := ∀ (d : Nat) (M : Mem) (K : KK) (Q : RR → Mem → KK → Prop) (x : XP), D ≤ d → K.1 = 923 → FX M → M cm 5 = nC → M cm 6 = nS → TR B n M x.1 → PR M x.2 → G3 x → (∀ M', FX M' → FrP M M' → TR B n M' (F x).1 → PR M' (F x).2 → Q (.inl none) M' K) → Wm d m (vR 35 :: vR 33 :: vR cm :: ar) M K Q
theorem ag_ok {S : XP → XP} {cm D : Nat} {op : Int} (hn : n ≤ 150) (hcm : isO 923 cm 0 = true) (hop : 0 ≤ op ∧ op < 6) (hS : CtP B n cm D 65 nC nS [vI (op + 1)] S) (hG : GS B n S) : ∀ (d : Nat) (M : Mem) (K : KK) (Q : RR → Mem → KK → Prop) (p q : Nat) (P : PG), D + 3 ≤ d → K.1 = 923 → FX M → M cm 5 = nC → M cm 6 = nS → TR B n M (.inl q) → PR M P → 3 * P.1 ≤ p → p + 3 ≤ q → (∀ M', FX M' → FrP M M' → TR B n M' (agF B n S (.inl q) P).1 → PR M' (agF B n S (.inl q) P).2 → Q (.inl none) M' K) → Wm d 67 [vR 35, vR 33, vR cm, vI op] M K Q := by
  intro d M K Q p q P hd hK hX h5 h6 ht hp hpp hq kk
  obtain ⟨d, rfl⟩ : ∃ d', d = d' + 3 := ⟨d - 3, by omega⟩
  have hr0 := rg0 hcm
  have hqn := ht.w.1
  refine u67_0 hK hX hcm ⟨fun _ => ⟨B, n, _, ht, fun M1 x1 p1 => ⟨P, ⟨hp.t p1.1, by omega⟩, fun M2 x2 p2 => ⟨B, n, _, ⟨p1.2.p p2.2.2 (fun j => p2.1 34 j (by omega) (by omega) (by omega)), by decide⟩, fun M3 x3 p3 => ?_⟩⟩⟩, fun h => by omega⟩
  have e7 : (7 : Int) - 1 = 6 := rfl
  rw [e7] at p2
  rw [w32_id (by omega)]
  have f3 : FrP M M3 := (p1.1.P.tr p2.1).tr p3.1.P
  have wS := w_sign (c := 91) (w_num (lo := 0) (hi := 30) ht.w)
  have gS : G3 (tSign B n 91 (tNum B n 0 30 (.inl q)).2, addP P 6 (tNum B n 0 30 (.inl q)).1 0) := ⟨fun r hr => by
    obtain ⟨r1, e1⟩ := sign_ok hr
    have := sign_le r1 r e1 hr
    have := num_le q r1 rfl e1
    simp only [addP]; omega, by simp only [addP]; omega⟩
  refine hS (d + 2) M3 K _ (tSign B n 91 (tNum B n 0 30 (.inl q)).2, addP P 6 (tNum B n 0 30 (.inl q)).1 0) (by omega) hK x3 ((f3 cm 5 (by omega) (by omega) (by omega)).trans h5) ((f3 cm 6 (by omega) (by omega) (by omega)).trans h6) p3.2 (p2.2.1.t p3.1) gS (fun M4 x4 f4 t4 c4 => Bk_n ?_)
  have hg := hG _ wS gS
  refine u67_47 hK x4 hcm ⟨B, n, _, ⟨t4, by decide⟩, fun M5 x5 p5 => ⟨by omega, ?_⟩⟩
  have c5 := c4.t p5.1
  have hle : P.1 < (S (tSign B n 91 (tNum B n 0 30 (.inl q)).2, addP P 6 (tNum B n 0 30 (.inl q)).1 0)).2.1 := by
    have := hg.2.2.2
    simp only [addP] at this ⊢; omega
  rw [c5.1, Int.toNat_natCast]
  refine kk _ (x5.set (nfa o39 _)) (((f3.tr f4).tr p5.1.P).tr (fun a j h1 _ _ => by simp only [mset]; rw [if_neg (by omega)])) (p5.2.set (by decide)) ⟨?_, fun i hi => ?_⟩
  · rw [ms_na (by decide)]; exact c5.1
  · have h9 := c5.2 i hi
    simp only [agF] at hi ⊢
    simp only [mset]
    by_cases hii : i = P.1
    · subst hii; simp; exact ⟨h9.1, h9.2.1, h9.2.2.1⟩
    · simp [hii]; exact h9
theorem step_ok {O : Option (XP → XP)} {cm D : Nat} {op : Int} (hn : n ≤ 150) (hcm : isO 923 cm 0 = true) (hop : 0 ≤ op ∧ op ≤ 6) (hC : 0 ≤ nC ∧ nC ≤ 12) (hS : 0 ≤ nS ∧ nS ≤ 6) (hO : ∀ S, O = some S → op < 6 ∧ CtP B n cm D 65 nC nS [vI (op + 1)] S ∧ GS B n S) (hN : O = none → op = 6) : ∀ (d : Nat) (M : Mem) (K : KK) (Q : RR → Mem → KK → Prop) (p : Nat) (P : PG), D + 4 ≤ d → K.1 = 923 → FX M → M cm 5 = nC → M cm 6 = nS → TR B n M (.inl p) → PR M P → 3 * P.1 ≤ p → (∀ M', FX M' → FrP M M' → TR B n M' (stF B n nC nS O (.inl p, P)).1 → PR M' (stF B n nC nS O (.inl p, P)).2 → Q (.inl none) M' K) → Wm d 66 [vR 35, vR 33, vR cm, vI op] M K Q := by
  intro d M K Q p P hd hK hX h5 h6 ht hp hpp kk
  obtain ⟨d, rfl⟩ : ∃ d', d = d' + 3 := ⟨d - 3, by omega⟩
  have hr0 := rg0 hcm
  have hpn := ht.w.1
  refine u66_0 hK hX hcm ⟨B, n, _, ht, fun M1 x1 p1 => ?_⟩
  obtain ⟨f1, t1, p', e, wa, wq⟩ := p1
  obtain ⟨hpp', he⟩ := wq p rfl
  subst hpp'
  have hwd : wdL (M1 34) p' e = wdL B p' (sp isS B n p') := by rw [wdL_c t1 wa.2.2.2.1, he]
  have hk : nmOf (wdL (M1 34) p' e) [18, 19, 20, 21, 22, 23, 24] 1 = if stW B n (.inl p') = -1 then -1 else stW B n (.inl p') + 1 := by
    rw [hwd]; exact nmOf_up _ 0 (by decide)
  have hrg := stW_rg (B := B) (n := n) (st := .inl p')
  have h51 : M1 cm 5 = nC := (f1 cm 5 (by omega)).trans h5
  have h61 : M1 cm 6 = nS := (f1 cm 6 (by omega)).trans h6
  have c1 := hp.t f1
  have t1' : TR B n M1 (.inl (sk B n (sp isS B n p'))) := t1
  refine ⟨n, p', e, wa, ?_⟩
  rw [hk, h51, h61]
  -- a step, its first number read
  have u76 : ∀ (k : Int), stW B n (.inl p') = k → (0 ≤ k ∧ k ≤ 5) → ∀ (a : Int) (st2 : ST) (M2 : Mem), FX M2 → FrT M1 M2 → TR B n M2 st2 → (if k = 5 then ((0 : Int), tWord B n (.inl p')) else tNum B n 0 ((if k = 4 then nC else nS) - 1) (tWord B n (.inl p'))) = (a, st2) → Wp (d + 3) 66 76 [vR 35, vR 33, vR cm, vI op, vI (k + 1), vU, vU] [vI a] M2 K Q := by
    intro k hk0 hk5 a st2 M2 x2 f2 t2 hy
    have c2 := c1.t f2
    have hu : stF B n nC nS O (.inl p', P) = ((if k = 0 then tNum B n 0 (nC - 1) st2 else (0, st2)).2, addP P k a (if k = 0 then tNum B n 0 (nC - 1) st2 else (0, st2)).1) := by
      simp only [stF]; rw [hk0, if_neg (by omega), if_neg (by omega)]
      simp only [stN]; rw [hy]
    rw [hu] at kk
    refine u66_76 hK x2 hcm ⟨fun hne => ⟨P, ⟨c2, by omega⟩, fun M3 x3 p3 => ?_⟩, fun he0 => ⟨B, n, _, t2, fun M3 x3 p3 => ⟨P, ⟨c2.t p3.1, by omega⟩, fun M4 x4 p4 => ?_⟩⟩⟩
    · rw [if_neg (by omega)] at kk
      rw [show k + 1 - 1 = k from by omega] at p3
      exact kk M3 x3 ((f1.P.tr f2.P).tr p3.1) (t2.p p3.2.2 (fun j => p3.1 34 j (by omega) (by omega) (by omega))) p3.2.1
    · have hk00 : k = 0 := by omega
      rw [if_pos hk00] at kk
      have h52 : M2 cm 5 = nC := (f2 cm 5 (by omega)).trans h51
      rw [h52, w32_id (by omega)] at p3 p4
      rw [show k + 1 - 1 = k from by omega] at p4
      exact kk M4 x4 (((f1.P.tr f2.P).tr p3.1.P).tr p4.1) (p3.2.p p4.2.2 (fun j => p4.1 34 j (by omega) (by omega) (by omega))) p4.2.1
  refine ⟨fun hne => ⟨fun h7 => ⟨fun h6' => ⟨fun h5' => ⟨B, n, _, t1, fun M2 x2 p2 => ?_⟩, fun h5' => ⟨B, n, _, t1, fun M2 x2 p2 => ?_⟩⟩, fun h6' => ?_⟩, fun h7 => ?_⟩, fun heq => ⟨B, n, _, p', e, ⟨t1, by decide, wa⟩, fun M2 x2 p2 => ?_⟩⟩
  · have hk1 : ¬ stW B n (.inl p') = -1 := fun h => hne (if_pos h)
    rw [if_neg hk1] at h7 h6' h5' ⊢
    rw [w32_id (by omega)] at p2 ⊢
    rcases hrg with h | ⟨r1, r2, -⟩
    · exact absurd h hk1
    · exact u76 _ rfl (by omega) _ _ M2 x2 p2.1 p2.2 (by rw [if_neg (by omega), if_neg (by omega)])
  · have hk1 : ¬ stW B n (.inl p') = -1 := fun h => hne (if_pos h)
    rw [if_neg hk1] at h7 h6' h5' ⊢
    rw [w32_id (by omega)] at p2 ⊢
    exact u76 _ rfl (by omega) _ _ M2 x2 p2.1 p2.2 (by rw [if_neg (by omega), if_pos (by omega)])
  · have hk1 : ¬ stW B n (.inl p') = -1 := fun h => hne (if_pos h)
    rw [if_neg hk1] at h7 h6' ⊢
    exact u76 _ rfl (by omega) _ _ M1 x1 FrT.rf t1 (by rw [if_pos (by omega)])
  · have hk1 : ¬ stW B n (.inl p') = -1 := fun h => hne (if_pos h)
    rw [if_neg hk1] at h7 ⊢
    have hk6 : stW B n (.inl p') = 6 := by omega
    rcases hrg with h | ⟨r1, r2, q, a, hq, hwa, ha⟩
    · exact absurd h hk1
    · cases hq
      cases O with
      | some S =>
        obtain ⟨o1, o2, o3⟩ := hO S rfl
        have hu : stF B n nC nS (some S) (.inl p', P) = agF B n S (tWord B n (.inl p')) P := by
          simp only [stF]; rw [if_neg hk1, if_pos hk6]; rfl
        rw [hu] at kk
        refine ag_ok hn hcm ⟨hop.1, o1⟩ o2 o3 (d + 2) M1 K _ p' (sk B n (sp isS B n p')) P (by omega) hK x1 h51 h61 t1' c1 hpp (word3 hpn hwa ha rfl) (fun M2 x2 f2 t2 c2 => Bk_n (u66_38 hK x2 hcm (kk M2 x2 (f1.P.tr f2) t2 c2)))
      | none =>
        have ho6 := hN rfl
        have hu : stF B n nC nS none (.inl p', P) = (.inr (3, (p' : Int)), P) := by
          simp only [stF]; rw [if_neg hk1, if_pos hk6]; rfl
        rw [hu] at kk
        obtain ⟨d, rfl⟩ : ∃ d', d = d' + 1 := ⟨d - 1, by omega⟩
        refine u67_0 hK x1 hcm ⟨fun h => by omega, fun _ => ⟨B, n, _, p', e, ⟨t1, by decide, wa⟩, fun M2 x2 p2 => Bk_n (u66_38 hK x2 hcm (kk M2 x2 (f1.P.tr p2.1.P) p2.2 (c1.t p2.1)))⟩⟩
  · have hk1 : stW B n (.inl p') = -1 := by
      by_cases h : stW B n (.inl p') = -1
      · exact h
      · rw [if_neg h] at heq
        rcases hrg with h' | ⟨r1, r2, -⟩
        · exact absurd h' h
        · omega
    have hu : stF B n nC nS O (.inl p', P) = (.inr (1, (p' : Int)), P) := by
      simp only [stF]; rw [if_pos hk1]
    rw [hu] at kk
    exact kk M2 x2 (f1.P.tr p2.1.P) p2.2 (c1.t p2.1)
theorem steps_ok {F : XP → XP} {cm D : Nat} {op : Int} {top : Bool} (hcm : isO 923 cm 0 = true) (htop : top = false ↔ 0 < op) (hn : n ≤ 150) (hG : GS B n F) (hF : ∀ (d : Nat) (M : Mem) (K : KK) (Q : RR → Mem → KK → Prop) (p : Nat) (P : PG), D ≤ d → K.1 = 923 → FX M → M cm 5 = nC → M cm 6 = nS → TR B n M (.inl p) → PR M P → 3 * P.1 ≤ p → (∀ M', FX M' → FrP M M' → TR B n M' (F (.inl p, P)).1 → PR M' (F (.inl p, P)).2 → Q (.inl none) M' K) → Wm d 66 [vR 35, vR 33, vR cm, vI op] M K Q) : CtP B n cm (D + 2) 65 nC nS [vI op] (ssL B n top F 150) := by
  intro d M K Q x hd hK hX h5 h6 ht hp hg kk
  obtain ⟨d, rfl⟩ : ∃ d', d = d' + 2 := ⟨d - 2, by omega⟩
  have hr0 := rg0 hcm
  have loop : ∀ (f i : Nat) (x : XP) (M1 : Mem) (l5 : PV), f + i = 150 → FX M1 → FrP M M1 → TR B n M1 x.1 → PR M1 x.2 → G3 x → (∀ M', FX M' → FrP M M' → TR B n M' (ssL B n top F f x).1 → PR M' (ssL B n top F f x).2 → Q (.inl none) M' K) → Wp (d + 2) 65 3 [vR 35, vR 33, vR cm, vI op, vI (i : Int), l5] [] M1 K Q := by
    intro f
    induction f with
    | zero =>
      intro i x M1 l5 hi x1 f1 t1 c1 g1 k1
      exact u65_3 hK x1 hcm ⟨fun _ => k1 M1 x1 f1 t1 c1, fun h => by omega⟩
    | succ f ih =>
      rintro i ⟨st, P⟩ M1 l5 hi x1 f1 t1 c1 g1 k1
      dsimp only at t1 c1
      simp only [ssL] at k1
      refine u65_3 hK x1 hcm ⟨fun h => by omega, fun _ => ⟨B, n, st, t1, fun M2 x2 p2 => ?_⟩⟩
      have go : ¬ (pk B n st = -1 ∨ (top = false ∧ pk B n st = 93)) → Wm (d + 1) 66 [vR 35, vR 33, vR cm, vI op] M2 K (Bk (d + 1) 65 39 42 66 [vR 35, vR 33, vR cm, vI op, vI (i : Int), vI (pk B n st)] [] Q) := by
        intro hno
        rw [if_neg hno] at k1
        obtain ⟨p, rfl⟩ : ∃ p, st = .inl p := by
          cases st with
          | inl p => exact ⟨p, rfl⟩
          | inr f => exact absurd (Or.inl rfl) hno
        have f2 := f1.tr p2.1.P
        refine hF (d + 1) M2 K _ p P (by omega) hK x2 ((f2 cm 5 (by omega) (by omega) (by omega)).trans h5) ((f2 cm 6 (by omega) (by omega) (by omega)).trans h6) p2.2.1 (c1.t p2.1) (g1.1 p rfl) (fun M3 x3 f3 t3 c3 => Bk_n ?_)
        refine u65_42 hK x3 hcm ⟨B, n, _, ⟨t3, by decide⟩, fun M4 x4 p4 => ?_⟩
        rw [w1 (by omega)]
        obtain ⟨q1, q2, q3, q4⟩ := hG (.inl p, P) t1.w g1
        refine ih (i + 1) (tSign B n 59 (F (.inl p, P)).1, (F (.inl p, P)).2) M4 _ (by omega) x4 ((f2.tr f3).tr p4.1.P) p4.2 (c3.t p4.1) ⟨fun q hq => ?_, q2.2⟩ k1
        obtain ⟨r1, e1⟩ := sign_ok hq
        have := sign_le r1 q e1 hq
        have := q2.1 r1 e1
        dsimp only; omega
      refine ⟨fun he => ?_, fun hne => ⟨fun ho => go ?_, fun ho => ⟨fun h93 => go ?_, fun h93 => ?_⟩⟩⟩
      · rw [if_pos (Or.inl he)] at k1
        exact k1 M2 x2 (f1.tr p2.1.P) p2.2.1 (c1.t p2.1)
      · rintro (h | h)
        · exact hne h
        · have := htop.mp h.1; omega
      · rintro (h | h)
        · exact hne h
        · exact h93 h.2
      · rw [if_pos (Or.inr ⟨htop.mpr (by omega), h93⟩)] at k1
        exact k1 M2 x2 (f1.tr p2.1.P) p2.2.1 (c1.t p2.1)
  exact u65_0 hK hX hcm (loop 150 0 x M vU rfl hX (fun _ _ _ _ _ => rfl) ht hp hg kk)
theorem CtP.cg {cm D m : Nat} {ar : List PV} {F : XP → XP} {D' : Nat} (h : CtP B n cm D m nC nS ar F) (hd : D ≤ D') : CtP B n cm D' m nC nS ar F := fun d M K Q x h1 => h d M K Q x (by omega)
theorem pSt_ok {cm : Nat} (hn : n ≤ 150) (hcm : isO 923 cm 0 = true) (hC : 0 ≤ nC ∧ nC ≤ 12) (hS : 0 ≤ nS ∧ nS ≤ 6) : ∀ r, r ≤ 5 → CtP B n cm (10 * r + 10) 65 nC nS [vI (6 - (r : Int))] (pSt B n nC nS r) := by
  intro r
  induction r with
  | zero =>
    intro _
    exact (steps_ok (D := 4) hcm ⟨fun _ => by omega, fun _ => rfl⟩ hn (stF_g hn (fun S h => by cases h)) (step_ok (D := 0) (O := none) hn hcm (by omega) hC hS (fun S h => by cases h) (fun _ => by omega))).cg (by omega)
  | succ r ih =>
    intro hr
    have ih' := ih (by omega)
    have e : (6 : Int) - ((r + 1 : Nat) : Int) + 1 = 6 - (r : Int) := by omega
    refine (steps_ok (D := 10 * r + 14) hcm ⟨fun _ => by omega, fun _ => rfl⟩ hn (stF_g hn (fun S h => by cases h; exact pSt_g hn r)) (step_ok (D := 10 * r + 10) (O := some (pSt B n nC nS r)) hn hcm (by omega) hC hS (fun S h => ?_) (fun h => by cases h))).cg (by omega)
    cases h
    rw [e]
    exact ⟨by omega, ih', (pSt_g hn r).1⟩
theorem g64 {d cm : Nat} {M : Mem} {K : KK} {Q : RR → Mem → KK → Prop} (hK : K.1 = 923) (hX : FX M) (hcm : isO 923 cm 0 = true) (h : n ≤ 150 ∧ TR B n M (.inl (sk B n 0)) ∧ M cm 5 = nC ∧ M cm 6 = nS ∧ (0 ≤ nC ∧ nC ≤ 12) ∧ (0 ≤ nS ∧ nS ≤ 6)) (k : ∀ M', FX M' → (FrP M M' ∧ TR B n M' (pPrg B n nC nS).1 ∧ PR M' (pPrg B n nC nS).2) → Q (.inl none) M' K) : Wm (d + 80) 64 [vR 35, vR 33, vR cm] M K Q := by
  obtain ⟨hn, ht, h5, h6, hC, hS⟩ := h
  have hr0 := rg0 hcm
  have ih := pSt_ok (B := B) hn hcm hC hS 5 (by omega)
  have e6 : (6 : Int) - ((5 : Nat) : Int) = 0 + 1 := by omega
  rw [e6] at ih
  have big := steps_ok (op := 0) (top := true) hcm ⟨fun h => (by cases h), fun h => by omega⟩ hn (stF_g (nC := nC) (nS := nS) hn (fun S h => by cases h; exact pSt_g hn 5)) (step_ok (D := 60) (op := 0) (O := some (pSt B n nC nS 5)) hn hcm (by omega) hC hS (fun S h => by cases h; exact ⟨by omega, ih, (pSt_g hn 5).1⟩) (fun h => by cases h))
  refine u64_0 (d := d + 79) hK hX hcm (big (d + 79) _ K _ (.inl (sk B n 0), (0, fun _ _ => 0)) (by omega) hK (hX.set (by decide +kernel)) ((ms_na (by omega)).trans h5) ((ms_na (by omega)).trans h6) (ht.set (by decide)) ⟨ms_eq, fun i hi => absurd hi (Nat.not_lt_zero _)⟩ ⟨fun p _ => Nat.zero_le _, Nat.zero_le _⟩ (fun M1 x1 f1 t1 c1 => Bk_n ?_))
  refine u64_12 hK x1 hcm (k M1 x1 ⟨?_, t1, c1⟩)
  intro a j p q r
  rw [f1 a j p q r]
  simp only [mset]; rw [if_neg (by omega)]
end PG
