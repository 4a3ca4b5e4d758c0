/-! the model reads a common -/
theorem u173_0 {d : Nat}  {M : Mem} {K : KK} {Q : RR → Mem → KK → Prop} (hK : K.1 = 923) (hX : FX M)  (h : ∃ B1 : BY, ∃ n2 : Nat, ∃ st3 : ST, ∃ s4 : Nat, (TM B1 n2 M st3 ∧ WC (3 : Int) (5 : Int) (12 : Int) (12 : Int) (0 : Int) (0 : Int) s4) ∧ (∀ (M8 : Mem), FX M8 → (FrM M M8 ∧ TM B1 n2 M8 st3 ∧ AtM M8 st3) → (¬ (isWd B1 n2 st3 s4 = true) → ∃ B11 : BY, ∃ n12 : Nat, ∃ st13 : ST, ∃ s14 : Nat, (TM B11 n12 M8 st13 ∧ WC (19 : Int) (20 : Int) (18 : Int) (9 : Int) (16 : Int) (0 : Int) s14) ∧ (∀ (M18 : Mem), FX M18 → (FrM M8 M18 ∧ TM B11 n12 M18 st13 ∧ AtM M18 st13) → (¬ (isWd B11 n12 st13 s14 = true) → ∃ B21 : BY, ∃ n22 : Nat, ∃ st23 : ST, ∃ s24 : Nat, (TM B21 n22 M18 st23 ∧ WC (4 : Int) (5 : Int) (5 : Int) (4 : Int) (0 : Int) (0 : Int) s24) ∧ (∀ (M28 : Mem), FX M28 → (FrM M18 M28 ∧ TM B21 n22 M28 st23 ∧ AtM M28 st23) → (¬ (isWd B21 n22 st23 s24 = true) → ∃ B31 : BY, ∃ n32 : Nat, ∃ st33 : ST, ∃ s34 : Nat, (TM B31 n32 M28 st33 ∧ WC (18 : Int) (1 : Int) (9 : Int) (14 : Int) (0 : Int) (0 : Int) s34) ∧ (∀ (M38 : Mem), FX M38 → (FrM M28 M38 ∧ TM B31 n32 M38 st33 ∧ AtM M38 st33) → (¬ (isWd B31 n32 st33 s34 = true) → ∃ B41 : BY, ∃ n42 : Nat, ∃ st43 : ST, ∃ s44 : Nat, (TM B41 n42 M38 st43 ∧ WC (13 : Int) (9 : Int) (12 : Int) (11 : Int) (0 : Int) (0 : Int) s44) ∧ (∀ (M48 : Mem), FX M48 → (FrM M38 M48 ∧ TM B41 n42 M48 st43 ∧ AtM M48 st43) → (¬ (isWd B41 n42 st43 s44 = true) → ∃ B51 : BY, ∃ n52 : Nat, ∃ st53 : ST, ∃ s54 : Nat, (TM B51 n52 M48 st53 ∧ WC (19 : Int) (9 : Int) (7 : Int) (8 : Int) (20 : Int) (0 : Int) s54) ∧ (∀ (M58 : Mem), FX M58 → (FrM M48 M58 ∧ TM B51 n52 M58 st53 ∧ AtM M58 st53) → (¬ (isWd B51 n52 st53 s54 = true) → Q (.inl (some (vI (-1 : Int)))) M58 K) ∧ ((isWd B51 n52 st53 s54 = true) → Q (.inl (some (vI (5 : Int)))) M58 K))) ∧ ((isWd B41 n42 st43 s44 = true) → Q (.inl (some (vI (4 : Int)))) M48 K))) ∧ ((isWd B31 n32 st33 s34 = true) → Q (.inl (some (vI (3 : Int)))) M38 K))) ∧ ((isWd B21 n22 st23 s24 = true) → Q (.inl (some (vI (2 : Int)))) M28 K))) ∧ ((isWd B11 n12 st13 s14 = true) → Q (.inl (some (vI (1 : Int)))) M18 K))) ∧ ((isWd B1 n2 st3 s4 = true) → Q (.inl (some (vI (0 : Int)))) M8 K))) : Wp (d + 4) 173 0 [vR 440] [] M K Q := by
  refine r_aload_n c173_0 rfl ?_
  refine r_iconst c173_1 ?_
  refine r_iconst c173_2 ?_
  refine r_bipush c173_3 ?_
  refine r_bipush c173_5 ?_
  refine r_iconst c173_7 ?_
  refine r_iconst c173_8 ?_
  obtain ⟨B1, h⟩ := h
  obtain ⟨n2, h⟩ := h
  obtain ⟨st3, h⟩ := h
  obtain ⟨s4, h⟩ := h
  obtain ⟨p5, h⟩ := h
  refine r_call c173_9 rfl rfl (Nat.le_of_ble_eq_true rfl) (okc_r rfl rfl (oK hK o440)) (g166 hK hX p5 (fun M8 x6 p7 => Bk_v ?_))
  replace h := h M8 x6 p7
  refine r_ifP (P := ¬ (isWd B1 n2 st3 s4 = true)) c173_12 bI_eq (fun hc9 => ?_) (fun hc9 => ?_)
  · replace h := h.1 hc9
    refine r_aload_n c173_17 rfl ?_
    refine r_bipush c173_18 ?_
    refine r_bipush c173_20 ?_
    refine r_bipush c173_22 ?_
    refine r_bipush c173_24 ?_
    refine r_bipush c173_26 ?_
    refine r_iconst c173_28 ?_
    obtain ⟨B11, h⟩ := h
    obtain ⟨n12, h⟩ := h
    obtain ⟨st13, h⟩ := h
    obtain ⟨s14, h⟩ := h
    obtain ⟨p15, h⟩ := h
    refine r_call c173_29 rfl rfl (Nat.le_of_ble_eq_true rfl) (okc_r rfl rfl (oK hK o440)) (g166 hK x6 p15 (fun M18 x16 p17 => Bk_v ?_))
    replace h := h M18 x16 p17
    refine r_ifP (P := ¬ (isWd B11 n12 st13 s14 = true)) c173_32 bI_eq (fun hc19 => ?_) (fun hc19 => ?_)
    · replace h := h.1 hc19
      refine r_aload_n c173_37 rfl ?_
      refine r_iconst c173_38 ?_
      refine r_iconst c173_39 ?_
      refine r_iconst c173_40 ?_
      refine r_iconst c173_41 ?_
      refine r_iconst c173_42 ?_
      refine r_iconst c173_43 ?_
      obtain ⟨B21, h⟩ := h
      obtain ⟨n22, h⟩ := h
      obtain ⟨st23, h⟩ := h
      obtain ⟨s24, h⟩ := h
      obtain ⟨p25, h⟩ := h
      refine r_call c173_44 rfl rfl (Nat.le_of_ble_eq_true rfl) (okc_r rfl rfl (oK hK o440)) (g166 hK x16 p25 (fun M28 x26 p27 => Bk_v ?_))
      replace h := h M28 x26 p27
      refine r_ifP (P := ¬ (isWd B21 n22 st23 s24 = true)) c173_47 bI_eq (fun hc29 => ?_) (fun hc29 => ?_)
      · replace h := h.1 hc29
        refine r_aload_n c173_52 rfl ?_
        refine r_bipush c173_53 ?_
        refine r_iconst c173_55 ?_
        refine r_bipush c173_56 ?_
        refine r_bipush c173_58 ?_
        refine r_iconst c173_60 ?_
        refine r_iconst c173_61 ?_
        obtain ⟨B31, h⟩ := h
        obtain ⟨n32, h⟩ := h
        obtain ⟨st33, h⟩ := h
        obtain ⟨s34, h⟩ := h
        obtain ⟨p35, h⟩ := h
        refine r_call c173_62 rfl rfl (Nat.le_of_ble_eq_true rfl) (okc_r rfl rfl (oK hK o440)) (g166 hK x26 p35 (fun M38 x36 p37 => Bk_v ?_))
        replace h := h M38 x36 p37
        refine r_ifP (P := ¬ (isWd B31 n32 st33 s34 = true)) c173_65 bI_eq (fun hc39 => ?_) (fun hc39 => ?_)
        · replace h := h.1 hc39
          refine r_aload_n c173_70 rfl ?_
          refine r_bipush c173_71 ?_
          refine r_bipush c173_73 ?_
          refine r_bipush c173_75 ?_
          refine r_bipush c173_77 ?_
          refine r_iconst c173_79 ?_
          refine r_iconst c173_80 ?_
          obtain ⟨B41, h⟩ := h
          obtain ⟨n42, h⟩ := h
          obtain ⟨st43, h⟩ := h
          obtain ⟨s44, h⟩ := h
          obtain ⟨p45, h⟩ := h
          refine r_call c173_81 rfl rfl (Nat.le_of_ble_eq_true rfl) (okc_r rfl rfl (oK hK o440)) (g166 hK x36 p45 (fun M48 x46 p47 => Bk_v ?_))
          replace h := h M48 x46 p47
          refine r_ifP (P := ¬ (isWd B41 n42 st43 s44 = true)) c173_84 bI_eq (fun hc49 => ?_) (fun hc49 => ?_)
          · replace h := h.1 hc49
            refine r_aload_n c173_89 rfl ?_
            refine r_bipush c173_90 ?_
            refine r_bipush c173_92 ?_
            refine r_bipush c173_94 ?_
            refine r_bipush c173_96 ?_
            refine r_bipush c173_98 ?_
            refine r_iconst c173_100 ?_
            obtain ⟨B51, h⟩ := h
            obtain ⟨n52, h⟩ := h
            obtain ⟨st53, h⟩ := h
            obtain ⟨s54, h⟩ := h
            obtain ⟨p55, h⟩ := h
            refine r_call c173_101 rfl rfl (Nat.le_of_ble_eq_true rfl) (okc_r rfl rfl (oK hK o440)) (g166 hK x46 p55 (fun M58 x56 p57 => Bk_v ?_))
            replace h := h M58 x56 p57
            refine r_ifP (P := ¬ (isWd B51 n52 st53 s54 = true)) c173_104 bI_eq (fun hc59 => ?_) (fun hc59 => ?_)
            · replace h := h.1 hc59
              refine r_iconst c173_111 ?_
              exact r_iret c173_112 (Or.inl rfl) h
            · have hc60 := Classical.not_not.mp hc59
              replace h := h.2 hc60
              refine r_iconst c173_107 ?_
              refine r_goto c173_108 ?_
              exact r_iret c173_112 (Or.inl rfl) h
          · have hc50 := Classical.not_not.mp hc49
            replace h := h.2 hc50
            refine r_iconst c173_87 ?_
            exact r_iret c173_88 (Or.inl rfl) h
        · have hc40 := Classical.not_not.mp hc39
          replace h := h.2 hc40
          refine r_iconst c173_68 ?_
          exact r_iret c173_69 (Or.inl rfl) h
      · have hc30 := Classical.not_not.mp hc29
        replace h := h.2 hc30
        refine r_iconst c173_50 ?_
        exact r_iret c173_51 (Or.inl rfl) h
    · have hc20 := Classical.not_not.mp hc19
      replace h := h.2 hc20
      refine r_iconst c173_35 ?_
      exact r_iret c173_36 (Or.inl rfl) h
  · have hc10 := Classical.not_not.mp hc9
    replace h := h.2 hc10
    refine r_iconst c173_15 ?_
    exact r_iret c173_16 (Or.inl rfl) h
theorem u174_0 {d : Nat} {l0 : Int} {M : Mem} {K : KK} {Q : RR → Mem → KK → Prop} (hK : K.1 = 923) (hX : FX M)  (h : (l0 = (0 : Int) → Q (.inl (some (vI (12 : Int)))) M K) ∧ (l0 = (1 : Int) → Q (.inl (some (vI (6 : Int)))) M K) ∧ (l0 = (2 : Int) → Q (.inl (some (vI (8 : Int)))) M K) ∧ (l0 < (0 : Int) ∨ (2 : Int) < l0 → Q (.inl (some (vI (7 : Int)))) M K)) : Wp d 174 0 [vI l0] [] M K Q := by
  refine r_iload_n c174_0 rfl ?_
  refine r_tsw c174_1 ?_
  by_cases hv0 : l0 = (0 : Int)
  · rw [show tsw 1 36 0 2 #[27, 30, 33] l0 = 28 from by rw [hv0]; decide]
    replace h := h.1 hv0
    refine r_bipush c174_28 ?_
    exact r_iret c174_30 (Or.inl rfl) h
  by_cases hv1 : l0 = (1 : Int)
  · rw [show tsw 1 36 0 2 #[27, 30, 33] l0 = 31 from by rw [hv1]; decide]
    replace h := h.2.1 hv1
    refine r_bipush c174_31 ?_
    exact r_iret c174_33 (Or.inl rfl) h
  by_cases hv2 : l0 = (2 : Int)
  · rw [show tsw 1 36 0 2 #[27, 30, 33] l0 = 34 from by rw [hv2]; decide]
    replace h := h.2.2.1 hv2
    refine r_bipush c174_34 ?_
    exact r_iret c174_36 (Or.inl rfl) h
  have hvd : l0 < (0 : Int) ∨ (2 : Int) < l0 := by omega
  rw [show tsw 1 36 0 2 #[27, 30, 33] l0 = 37 from by unfold tsw; rw [if_pos hvd]; decide]
  replace h := h.2.2.2 hvd
  refine r_bipush c174_37 ?_
  exact r_iret c174_39 (Or.inl rfl) h
theorem u150_0 {d : Nat}  {M : Mem} {K : KK} {Q : RR → Mem → KK → Prop} (hK : K.1 = 923) (hX : FX M)  (h : Wp d 150 2 [vR 440, vI (0 : Int)] [] M K Q) : Wp d 150 0 [vR 440, vU] [] M K Q := by
  refine r_iconst c150_0 ?_
  refine r_istore_n c150_1 (Nat.le_of_ble_eq_true rfl) ?_
  exact h
theorem u150_2 {d : Nat} {l1 : Int} {M : Mem} {K : KK} {Q : RR → Mem → KK → Prop} (hK : K.1 = 923) (hX : FX M)  (h : ((4 : Int) ≤ l1 → Q (.inl none) (mset (mset M 443 4 (5 : Int)) 443 5 (1 : Int)) K) ∧ (¬ ((4 : Int) ≤ l1) → (0 ≤ l1 ∧ l1 < (6 : Int)) ∧ Wp d 150 2 [vR 440, vI (w32 (l1 + 1))] [] (mset M 443 (Int.toNat l1) (0 : Int)) K Q)) : Wp d 150 2 [vR 440, vI l1] [] M K Q := by
  refine r_iload_n c150_2 rfl ?_
  refine r_iconst c150_3 ?_
  refine r_icmpP (P := (4 : Int) ≤ l1) c150_4 rfl (fun hc1 => ?_) (fun hc1 => ?_)
  · replace h := h.1 hc1
    refine r_aload_n c150_20 rfl ?_
    refine r_getR c150_21 (oK hK o440) (FX.get (b := 443) hX (by decide) (by decide +kernel) (by decide)) (by decide) ?_
    refine r_iconst c150_24 ?_
    refine r_iconst c150_25 ?_
    refine r_ias c150_26 (oK hK o443) (bd l443 (by decide)) ?_
    have x2 := FX.set (v := (5 : Int)) (a := 443) (k := 4) hX (nfa o443 _)
    refine r_aload_n c150_27 rfl ?_
    refine r_getR c150_28 (oK hK o440) (FX.get (b := 443) x2 (by decide) (by decide +kernel) (by decide)) (by decide) ?_
    refine r_iconst c150_31 ?_
    refine r_iconst c150_32 ?_
    refine r_ias c150_33 (oK hK o443) (bd l443 (by decide)) ?_
    have x3 := FX.set (v := (1 : Int)) (a := 443) (k := 5) x2 (nfa o443 _)
    exact r_ret c150_34 h
  · replace h := h.2 hc1
    refine r_aload_n c150_7 rfl ?_
    refine r_getR c150_8 (oK hK o440) (FX.get (b := 443) hX (by decide) (by decide +kernel) (by decide)) (by decide) ?_
    refine r_iload_n c150_11 rfl ?_
    refine r_iconst c150_12 ?_
    obtain ⟨s4, h⟩ := h
    refine r_ias c150_13 (oK hK o443) (bd l443 s4) ?_
    have x5 := FX.set (v := (0 : Int)) (a := 443) (k := (Int.toNat l1)) hX (nfa o443 _)
    refine r_iinc c150_14 rfl ?_
    refine r_goto c150_17 ?_
    exact h
theorem g173 {d : Nat} {M : Mem} {K : KK} {Q : RR → Mem → KK → Prop} {B : BY} {n : Nat} {st : ST} (hK : K.1 = 923) (hX : FX M) (h : TM B n M st) (k : ∀ M', FX M' → (FrM M M' ∧ TM B n M' st ∧ AtM M' st) → Q (.inl (some (vI (kWd B n st)))) M' K) : Wm (d + 4) 173 [vR 440] M K Q := by
  have hW : ∀ s, isWd B n st s = true → ∃ p, st = .inl p ∧ wdL B p (sp isS B n p) = wL s := by
    intro s hs
    cases st with
    | inl p => exact ⟨p, rfl, by simpa [isWd] using hs⟩
    | inr f => cases hs
  have hN : ∀ s p, st = .inl p → ¬ isWd B n st s = true → ¬ wdL B p (sp isS B n p) = wL s := by
    intro s p hp hs hw
    subst hp
    exact hs (by simp [isWd, hw])
  refine u173_0 hK hX ⟨B, n, st, 2, ⟨h, by decide +kernel⟩, fun M1 x1 p1 => ⟨fun n0 => ⟨B, n, st, 3, ⟨p1.2.1, by decide +kernel⟩, fun M2 x2 p2 => ⟨fun n1 => ⟨B, n, st, 4, ⟨p2.2.1, by decide +kernel⟩, fun M3 x3 p3 => ⟨fun n2 => ⟨B, n, st, 5, ⟨p3.2.1, by decide +kernel⟩, fun M4 x4 p4 => ⟨fun n3 => ⟨B, n, st, 6, ⟨p4.2.1, by decide +kernel⟩, fun M5 x5 p5 => ⟨fun n4 => ⟨B, n, st, 7, ⟨p5.2.1, by decide +kernel⟩, fun M6 x6 p6 => ⟨fun n5 => ?_, fun y5 => ?_⟩⟩, fun y4 => ?_⟩⟩, fun y3 => ?_⟩⟩, fun y2 => ?_⟩⟩, fun y1 => ?_⟩⟩, fun y0 => ?_⟩⟩
  · have e : kWd B n st = -1 := by
      cases st with
      | inr f => rfl
      | inl p => simp only [kWd, nmOf]; rw [if_neg (hN 2 p rfl n0), if_neg (hN 3 p rfl n1), if_neg (hN 4 p rfl n2), if_neg (hN 5 p rfl n3), if_neg (hN 6 p rfl n4), if_neg (hN 7 p rfl n5)]
    have := k M6 x6 ⟨(((((p1.1).tr p2.1).tr p3.1).tr p4.1).tr p5.1).tr p6.1, p6.2⟩
    rwa [e] at this
  · have e : kWd B n st = 5 := by
      obtain ⟨p, rfl, hw⟩ := hW 7 y5
      simp only [kWd, nmOf]; rw [if_neg (hN 2 p rfl n0), if_neg (hN 3 p rfl n1), if_neg (hN 4 p rfl n2), if_neg (hN 5 p rfl n3), if_neg (hN 6 p rfl n4), if_pos hw]; rfl
    have := k M6 x6 ⟨(((((p1.1).tr p2.1).tr p3.1).tr p4.1).tr p5.1).tr p6.1, p6.2⟩
    rwa [e] at this
  · have e : kWd B n st = 4 := by
      obtain ⟨p, rfl, hw⟩ := hW 6 y4
      simp only [kWd, nmOf]; rw [if_neg (hN 2 p rfl n0), if_neg (hN 3 p rfl n1), if_neg (hN 4 p rfl n2), if_neg (hN 5 p rfl n3), if_pos hw]; rfl
    have := k M5 x5 ⟨((((p1.1).tr p2.1).tr p3.1).tr p4.1).tr p5.1, p5.2⟩
    rwa [e] at this
  · have e : kWd B n st = 3 := by
      obtain ⟨p, rfl, hw⟩ := hW 5 y3
      simp only [kWd, nmOf]; rw [if_neg (hN 2 p rfl n0), if_neg (hN 3 p rfl n1), if_neg (hN 4 p rfl n2), if_pos hw]; rfl
    have := k M4 x4 ⟨(((p1.1).tr p2.1).tr p3.1).tr p4.1, p4.2⟩
    rwa [e] at this
  · have e : kWd B n st = 2 := by
      obtain ⟨p, rfl, hw⟩ := hW 4 y2
      simp only [kWd, nmOf]; rw [if_neg (hN 2 p rfl n0), if_neg (hN 3 p rfl n1), if_pos hw]; rfl
    have := k M3 x3 ⟨((p1.1).tr p2.1).tr p3.1, p3.2⟩
    rwa [e] at this
  · have e : kWd B n st = 1 := by
      obtain ⟨p, rfl, hw⟩ := hW 3 y1
      simp only [kWd, nmOf]; rw [if_neg (hN 2 p rfl n0), if_pos hw]; rfl
    have := k M2 x2 ⟨(p1.1).tr p2.1, p2.2⟩
    rwa [e] at this
  · have e : kWd B n st = 0 := by
      obtain ⟨p, rfl, hw⟩ := hW 2 y0
      simp only [kWd, nmOf]; rw [if_pos hw]
    have := k M1 x1 ⟨p1.1, p1.2⟩
    rwa [e] at this
theorem g174 {d : Nat} {M : Mem} {K : KK} {Q : RR → Mem → KK → Prop} {k9 : Int} (hK : K.1 = 923) (hX : FX M) (k : Q (.inl (some (vI (capF k9)))) M K) : Wm d 174 [vI k9] M K Q := by
  refine u174_0 hK hX ⟨fun e => ?_, fun e => ?_, fun e => ?_, fun e => ?_⟩
  · subst e; exact k
  · subst e; exact k
  · subst e; exact k
  · unfold capF at k; rw [if_neg (by omega), if_neg (by omega), if_neg (by omega)] at k; exact k
theorem u175_0 {d : Nat}  {M : Mem} {K : KK} {Q : RR → Mem → KK → Prop} (hK : K.1 = 923) (hX : FX M)  (h : ∃ B1 : BY, ∃ n2 : Nat, ∃ st3 : ST, TM B1 n2 M st3 ∧ (∀ (M7 : Mem), FX M7 → (FrM M M7 ∧ TM B1 n2 M7 st3 ∧ AtM M7 st3) → (¬ (kWd B1 n2 st3) = (-1 : Int) → ((M7 440 7) = (60 : Int) → ∃ B11 : BY, ∃ n12 : Nat, ∃ st13 : ST, (TM B11 n12 M7 st13 ∧ (3 : Int) ≠ 0) ∧ (∀ (M17 : Mem), FX M17 → (FrM M7 M17 ∧ TM B11 n12 M17 (tFail (3 : Int) (M7 440 4) st13) ∧ M17 440 4 = M7 440 4) → Wp (d + 5) 175 58 [vR 440, vI (kWd B1 n2 st3), vU, vU] [] M17 K Q)) ∧ (¬ ((M7 440 7) = (60 : Int)) → ((4 : Int) ≤ (kWd B1 n2 st3) → Wp (d + 5) 175 58 [vR 440, vI (kWd B1 n2 st3), vU, vU] [] M7 K Q) ∧ (¬ ((4 : Int) ≤ (kWd B1 n2 st3)) → (0 ≤ (kWd B1 n2 st3) ∧ (kWd B1 n2 st3) < (6 : Int)) ∧ (¬ (M7 443 (Int.toNat (kWd B1 n2 st3))) = (capF (kWd B1 n2 st3)) → Wp (d + 5) 175 58 [vR 440, vI (kWd B1 n2 st3), vU, vU] [] M7 K Q) ∧ ((M7 443 (Int.toNat (kWd B1 n2 st3))) = (capF (kWd B1 n2 st3)) → ∃ B22 : BY, ∃ n23 : Nat, ∃ st24 : ST, (TM B22 n23 M7 st24 ∧ (3 : Int) ≠ 0) ∧ (∀ (M28 : Mem), FX M28 → (FrM M7 M28 ∧ TM B22 n23 M28 (tFail (3 : Int) (M7 440 4) st24) ∧ M28 440 4 = M7 440 4) → Wp (d + 5) 175 58 [vR 440, vI (kWd B1 n2 st3), vU, vU] [] M28 K Q))))) ∧ ((kWd B1 n2 st3) = (-1 : Int) → ∃ B29 : BY, ∃ n30 : Nat, ∃ st31 : ST, (TM B29 n30 M7 st31 ∧ (1 : Int) ≠ 0) ∧ (∀ (M35 : Mem), FX M35 → (FrM M7 M35 ∧ TM B29 n30 M35 (tFail (1 : Int) (M7 440 4) st31) ∧ M35 440 4 = M7 440 4) → Wp (d + 5) 175 58 [vR 440, vI (kWd B1 n2 st3), vU, vU] [] M35 K Q)))) : Wp (d + 5) 175 0 [vR 440, vU, vU, vU] [] M K Q := by
  refine r_aload_n c175_0 rfl ?_
  obtain ⟨B1, h⟩ := h
  obtain ⟨n2, h⟩ := h
  obtain ⟨st3, h⟩ := h
  obtain ⟨p4, h⟩ := h
  refine r_call c175_1 rfl rfl (Nat.le_of_ble_eq_true rfl) (okc_r rfl rfl (oK hK o440)) (g173 hK hX p4 (fun M7 x5 p6 => Bk_v ?_))
  replace h := h M7 x5 p6
  refine r_istore_n c175_4 (Nat.le_of_ble_eq_true rfl) ?_
  refine r_iload_n c175_5 rfl ?_
  refine r_iconst c175_6 ?_
  refine r_icmpP (P := ¬ (kWd B1 n2 st3) = (-1 : Int)) c175_7 rfl (fun hc8 => ?_) (fun hc8 => ?_)
  · replace h := h.1 hc8
    refine r_aload_n c175_22 rfl ?_
    refine r_getIe c175_23 (oK hK o440) rfl ?_
    refine r_bipush c175_26 ?_
    refine r_icmpP (P := (M7 440 7) = (60 : Int)) c175_28 rfl (fun hc10 => ?_) (fun hc10 => ?_)
    · replace h := h.1 hc10
      refine r_aload_n c175_49 rfl ?_
      refine r_iconst c175_50 ?_
      refine r_aload_n c175_51 rfl ?_
      refine r_getIe c175_52 (oK hK o440) rfl ?_
      obtain ⟨B11, h⟩ := h
      obtain ⟨n12, h⟩ := h
      obtain ⟨st13, h⟩ := h
      obtain ⟨p14, h⟩ := h
      refine r_call c175_55 rfl rfl (Nat.le_of_ble_eq_true rfl) (okc_r rfl rfl (oK hK o440)) (g160 hK x5 p14 (fun M17 x15 p16 => Bk_n ?_))
      replace h := h M17 x15 p16
      exact h
    · replace h := h.2 hc10
      refine r_iload_n c175_31 rfl ?_
      refine r_iconst c175_32 ?_
      refine r_icmpP (P := (4 : Int) ≤ (kWd B1 n2 st3)) c175_33 rfl (fun hc18 => ?_) (fun hc18 => ?_)
      · replace h := h.1 hc18
        exact h
      · replace h := h.2 hc18
        refine r_aload_n c175_36 rfl ?_
        refine r_getR c175_37 (oK hK o440) (FX.get (b := 443) x5 (by decide) (by decide +kernel) (by decide)) (by decide) ?_
        refine r_iload_n c175_40 rfl ?_
        obtain ⟨s19, h⟩ := h
        refine r_iae c175_41 (oK hK o443) (bd l443 s19) rfl ?_
        refine r_iload_n c175_42 rfl ?_
        refine r_call c175_43 rfl rfl (Nat.le_of_ble_eq_true rfl) (okc_s rfl rfl rfl) (g174 hK x5  (Bk_v ?_))
        refine r_icmpP (P := ¬ (M7 443 (Int.toNat (kWd B1 n2 st3))) = (capF (kWd B1 n2 st3))) c175_46 rfl (fun hc20 => ?_) (fun hc20 => ?_)
        · replace h := h.1 hc20
          exact h
        · have hc21 := Classical.not_not.mp hc20
          replace h := h.2 hc21
          refine r_aload_n c175_49 rfl ?_
          refine r_iconst c175_50 ?_
          refine r_aload_n c175_51 rfl ?_
          refine r_getIe c175_52 (oK hK o440) rfl ?_
          obtain ⟨B22, h⟩ := h
          obtain ⟨n23, h⟩ := h
          obtain ⟨st24, h⟩ := h
          obtain ⟨p25, h⟩ := h
          refine r_call c175_55 rfl rfl (Nat.le_of_ble_eq_true rfl) (okc_r rfl rfl (oK hK o440)) (g160 hK x5 p25 (fun M28 x26 p27 => Bk_n ?_))
          replace h := h M28 x26 p27
          exact h
  · have hc9 := Classical.not_not.mp hc8
    replace h := h.2 hc9
    refine r_aload_n c175_10 rfl ?_
    refine r_iconst c175_11 ?_
    refine r_aload_n c175_12 rfl ?_
    refine r_getIe c175_13 (oK hK o440) rfl ?_
    obtain ⟨B29, h⟩ := h
    obtain ⟨n30, h⟩ := h
    obtain ⟨st31, h⟩ := h
    obtain ⟨p32, h⟩ := h
    refine r_call c175_16 rfl rfl (Nat.le_of_ble_eq_true rfl) (okc_r rfl rfl (oK hK o440)) (g160 hK x5 p32 (fun M35 x33 p34 => Bk_n ?_))
    replace h := h M35 x33 p34
    refine r_goto c175_19 ?_
    exact h
theorem u175_58 {d : Nat} {l1 : Int} {M : Mem} {K : KK} {Q : RR → Mem → KK → Prop} (hK : K.1 = 923) (hX : FX M)  (h : ((M 440 5) = (0 : Int) → ∃ B2 : BY, ∃ n3 : Nat, ∃ st4 : ST, (TM B2 n3 M st4 ∧ AtM M st4) ∧ (∀ (M8 : Mem), FX M8 → (FrM M M8 ∧ TM B2 n3 M8 (tWord B2 n3 st4)) → (0 ≤ l1 ∧ l1 < (6 : Int)) ∧ (l1 = (0 : Int) → ∃ B11 : BY, ∃ n12 : Nat, ∃ st13 : ST, TM B11 n12 (mset M8 440 7 (w32 ((M8 440 7) + (1 : Int)))) st13 ∧ (∀ (M17 : Mem), FX M17 → (FrM (mset M8 440 7 (w32 ((M8 440 7) + (1 : Int)))) M17 ∧ TM B11 n12 M17 (tNum B11 n12 (0 : Int) (9 : Int) st13).2) → (0 ≤ (M8 443 (Int.toNat l1)) ∧ (M8 443 (Int.toNat l1)) < (12 : Int)) ∧ Wp (d + 5) 175 235 [vR 440, vI l1, vI (M8 443 (Int.toNat l1)), vU] [] (mset M17 445 (Int.toNat (M8 443 (Int.toNat l1))) (okv (tNum B11 n12 (0 : Int) (9 : Int) st13))) K Q)) ∧ (l1 = (1 : Int) → (0 ≤ (M8 443 (Int.toNat l1)) ∧ (M8 443 (Int.toNat l1)) < (6 : Int)) ∧ ∃ B21 : BY, ∃ n22 : Nat, ∃ st23 : ST, TM B21 n22 (mset M8 440 7 (w32 ((M8 440 7) + (1 : Int)))) st23 ∧ (∀ (M27 : Mem), FX M27 → (FrM (mset M8 440 7 (w32 ((M8 440 7) + (1 : Int)))) M27 ∧ TM B21 n22 M27 (tNum B21 n22 (1 : Int) (6 : Int) st23).2) → (0 ≤ (M8 443 (Int.toNat l1)) ∧ (M8 443 (Int.toNat l1)) < (6 : Int)) ∧ ∃ B30 : BY, ∃ n31 : Nat, ∃ st32 : ST, TM B30 n31 (mset M27 (452 + Int.toNat (M8 443 (Int.toNat l1))) 0 (okv (tNum B21 n22 (1 : Int) (6 : Int) st23))) st32 ∧ (∀ (M36 : Mem), FX M36 → (FrM (mset M27 (452 + Int.toNat (M8 443 (Int.toNat l1))) 0 (okv (tNum B21 n22 (1 : Int) (6 : Int) st23))) M36 ∧ TM B30 n31 M36 (tNum B30 n31 (1 : Int) (99 : Int) st32).2) → Wp (d + 5) 175 235 [vR 440, vI l1, vI (M8 443 (Int.toNat l1)), vU] [] (mset M36 (452 + Int.toNat (M8 443 (Int.toNat l1))) 1 (okv (tNum B30 n31 (1 : Int) (99 : Int) st32))) K Q))) ∧ (l1 = (2 : Int) → ∃ B38 : BY, ∃ n39 : Nat, ∃ st40 : ST, TM B38 n39 (mset M8 440 7 (w32 ((M8 440 7) + (1 : Int)))) st40 ∧ (∀ (M44 : Mem), FX M44 → (FrM (mset M8 440 7 (w32 ((M8 440 7) + (1 : Int)))) M44 ∧ TM B38 n39 M44 (tNum B38 n39 (1 : Int) (9 : Int) st40).2) → (0 ≤ (M8 443 (Int.toNat l1)) ∧ (M8 443 (Int.toNat l1)) < (8 : Int)) ∧ Wp (d + 5) 175 235 [vR 440, vI l1, vI (M8 443 (Int.toNat l1)), vU] [] (mset M44 447 (Int.toNat (M8 443 (Int.toNat l1))) (okv (tNum B38 n39 (1 : Int) (9 : Int) st40))) K Q)) ∧ (l1 = (3 : Int) → ∃ B47 : BY, ∃ n48 : Nat, ∃ st49 : ST, TM B47 n48 (mset M8 440 7 (w32 ((M8 440 7) + (1 : Int)))) st49 ∧ (∀ (M53 : Mem), FX M53 → (FrM (mset M8 440 7 (w32 ((M8 440 7) + (1 : Int)))) M53 ∧ TM B47 n48 M53 (tNum B47 n48 (0 : Int) (9 : Int) st49).2) → (0 ≤ (M8 443 (Int.toNat l1)) ∧ (M8 443 (Int.toNat l1)) < (7 : Int)) ∧ Wp (d + 5) 175 235 [vR 440, vI l1, vI (M8 443 (Int.toNat l1)), vU] [] (mset M53 449 (Int.toNat (M8 443 (Int.toNat l1))) (okv (tNum B47 n48 (0 : Int) (9 : Int) st49))) K Q)) ∧ (l1 < (0 : Int) ∨ (3 : Int) < l1 → (¬ l1 = (4 : Int) → ∃ B58 : BY, ∃ n59 : Nat, ∃ st60 : ST, TM B58 n59 (mset M8 440 7 (w32 ((M8 440 7) + (1 : Int)))) st60 ∧ (∀ (M64 : Mem), FX M64 → (FrM (mset M8 440 7 (w32 ((M8 440 7) + (1 : Int)))) M64 ∧ TM B58 n59 M64 (tNum B58 n59 (0 : Int) (4 : Int) st60).2) → (¬ (M64 440 5) = (0 : Int) → Wp (d + 5) 175 235 [vR 440, vI l1, vI (M8 443 (Int.toNat l1)), vI (okv (tNum B58 n59 (0 : Int) (4 : Int) st60))] [] M64 K Q) ∧ ((M64 440 5) = (0 : Int) → (0 ≤ l1 ∧ l1 < (6 : Int)) ∧ Wp (d + 5) 175 235 [vR 440, vI l1, vI (M8 443 (Int.toNat l1)), vI (okv (tNum B58 n59 (0 : Int) (4 : Int) st60))] [] (mset M64 443 (Int.toNat l1) (okv (tNum B58 n59 (0 : Int) (4 : Int) st60))) K Q))) ∧ (l1 = (4 : Int) → ∃ B69 : BY, ∃ n70 : Nat, ∃ st71 : ST, TM B69 n70 (mset M8 440 7 (w32 ((M8 440 7) + (1 : Int)))) st71 ∧ (∀ (M75 : Mem), FX M75 → (FrM (mset M8 440 7 (w32 ((M8 440 7) + (1 : Int)))) M75 ∧ TM B69 n70 M75 (tNum B69 n70 (0 : Int) (99 : Int) st71).2) → (¬ (M75 440 5) = (0 : Int) → Wp (d + 5) 175 235 [vR 440, vI l1, vI (M8 443 (Int.toNat l1)), vI (okv (tNum B69 n70 (0 : Int) (99 : Int) st71))] [] M75 K Q) ∧ ((M75 440 5) = (0 : Int) → (0 ≤ l1 ∧ l1 < (6 : Int)) ∧ Wp (d + 5) 175 235 [vR 440, vI l1, vI (M8 443 (Int.toNat l1)), vI (okv (tNum B69 n70 (0 : Int) (99 : Int) st71))] [] (mset M75 443 (Int.toNat l1) (okv (tNum B69 n70 (0 : Int) (99 : Int) st71))) K Q)))))) ∧ (¬ ((M 440 5) = (0 : Int)) → Q (.inl none) M K)) : Wp (d + 5) 175 58 [vR 440, vI l1, vU, vU] [] M K Q := by
  refine r_aload_n c175_58 rfl ?_
  refine r_getIe c175_59 (oK hK o440) rfl ?_
  refine r_ifP (P := (M 440 5) = (0 : Int)) c175_62 rfl (fun hc1 => ?_) (fun hc1 => ?_)
  · replace h := h.1 hc1
    refine r_aload_n c175_66 rfl ?_
    obtain ⟨B2, h⟩ := h
    obtain ⟨n3, h⟩ := h
    obtain ⟨st4, h⟩ := h
    obtain ⟨p5, h⟩ := h
    refine r_call c175_67 rfl rfl (Nat.le_of_ble_eq_true rfl) (okc_r rfl rfl (oK hK o440)) (g167 hK hX p5 (fun M8 x6 p7 => Bk_n ?_))
    replace h := h M8 x6 p7
    refine r_aload_n c175_70 rfl ?_
    refine r_dupr c175_71 ?_
    refine r_getIe c175_72 (oK hK o440) rfl ?_
    refine r_iconst c175_75 ?_
    refine r_iadd c175_76 ?_
    refine r_putI c175_77 (oK hK o440) ?_
    have x9 := FX.set (v := (w32 ((M8 440 7) + (1 : Int)))) (a := 440) (k := 7) x6 (by decide +kernel)
    refine r_aload_n c175_80 rfl ?_
    refine r_getR c175_81 (oK hK o440) (FX.get (b := 443) x9 (by decide) (by decide +kernel) (by decide)) (by decide) ?_
    refine r_iload_n c175_84 rfl ?_
    obtain ⟨s10, h⟩ := h
    refine r_iae c175_85 (oK hK o443) (bd l443 s10) (ms_na (by decide)) ?_
    refine r_istore_n c175_86 (Nat.le_of_ble_eq_true rfl) ?_
    refine r_iload_n c175_87 rfl ?_
    refine r_tsw c175_88 ?_
    by_cases hv0 : l1 = (0 : Int)
    · rw [show tsw 88 113 0 3 #[32, 48, 81, 97] l1 = 120 from by rw [hv0]; decide]
      replace h := h.1 hv0
      refine r_aload_n c175_120 rfl ?_
      refine r_getR c175_121 (oK hK o440) (FX.get (b := 445) x9 (by decide) (by decide +kernel) (by decide)) (by decide) ?_
      refine r_iload_n c175_124 rfl ?_
      refine r_aload_n c175_125 rfl ?_
      refine r_iconst c175_126 ?_
      refine r_bipush c175_127 ?_
      obtain ⟨B11, h⟩ := h
      obtain ⟨n12, h⟩ := h
      obtain ⟨st13, h⟩ := h
      obtain ⟨p14, h⟩ := h
      refine r_call c175_129 rfl rfl (Nat.le_of_ble_eq_true rfl) (okc_r rfl rfl (oK hK o440)) (g163 hK x9 p14 (fun M17 x15 p16 => Bk_v ?_))
      replace h := h M17 x15 p16
      obtain ⟨s18, h⟩ := h
      refine r_ias c175_132 (oK hK o445) (bd l445 s18) ?_
      have x19 := FX.set (v := (okv (tNum B11 n12 (0 : Int) (9 : Int) st13))) (a := 445) (k := (Int.toNat (M8 443 (Int.toNat l1)))) x15 (nfa o445 _)
      refine r_goto c175_133 ?_
      exact h
    by_cases hv1 : l1 = (1 : Int)
    · rw [show tsw 88 113 0 3 #[32, 48, 81, 97] l1 = 136 from by rw [hv1]; decide]
      replace h := h.2.1 hv1
      refine r_aload_n c175_136 rfl ?_
      refine r_getR c175_137 (oK hK o440) (FX.get (b := 451) x9 (by decide) (by decide +kernel) (by decide)) (by decide) ?_
      refine r_iload_n c175_140 rfl ?_
      obtain ⟨s20, h⟩ := h
      refine r_aa c175_141 (mrw o451 hK) (bd l451 s20) (rf451 x9 s20) (by omega) ?_
      refine r_iconst c175_142 ?_
      refine r_aload_n c175_143 rfl ?_
      refine r_iconst c175_144 ?_
      refine r_bipush c175_145 ?_
      obtain ⟨B21, h⟩ := h
      obtain ⟨n22, h⟩ := h
      obtain ⟨st23, h⟩ := h
      obtain ⟨p24, h⟩ := h
      refine r_call c175_147 rfl rfl (Nat.le_of_ble_eq_true rfl) (okc_r rfl rfl (oK hK o440)) (g163 hK x9 p24 (fun M27 x25 p26 => Bk_v ?_))
      replace h := h M27 x25 p26
      refine r_ias c175_150 (oK hK (ro451 s20)) (bd (rz451 s20) (by decide)) ?_
      have x28 := FX.set (v := (okv (tNum B21 n22 (1 : Int) (6 : Int) st23))) (a := (452 + Int.toNat (M8 443 (Int.toNat l1)))) (k := 0) x25 (nfa (ro451 s20) _)
      refine r_aload_n c175_151 rfl ?_
      refine r_getR c175_152 (oK hK o440) (FX.get (b := 451) x28 (by decide) (by decide +kernel) (by decide)) (by decide) ?_
      refine r_iload_n c175_155 rfl ?_
      obtain ⟨s29, h⟩ := h
      refine r_aa c175_156 (mrw o451 hK) (bd l451 s29) (rf451 x28 s29) (by omega) ?_
      refine r_iconst c175_157 ?_
      refine r_aload_n c175_158 rfl ?_
      refine r_iconst c175_159 ?_
      refine r_bipush c175_160 ?_
      obtain ⟨B30, h⟩ := h
      obtain ⟨n31, h⟩ := h
      obtain ⟨st32, h⟩ := h
      obtain ⟨p33, h⟩ := h
      refine r_call c175_162 rfl rfl (Nat.le_of_ble_eq_true rfl) (okc_r rfl rfl (oK hK o440)) (g163 hK x28 p33 (fun M36 x34 p35 => Bk_v ?_))
      replace h := h M36 x34 p35
      refine r_ias c175_165 (oK hK (ro451 s29)) (bd (rz451 s29) (by decide)) ?_
      have x37 := FX.set (v := (okv (tNum B30 n31 (1 : Int) (99 : Int) st32))) (a := (452 + Int.toNat (M8 443 (Int.toNat l1)))) (k := 1) x34 (nfa (ro451 s29) _)
      refine r_goto c175_166 ?_
      exact h
    by_cases hv2 : l1 = (2 : Int)
    · rw [show tsw 88 113 0 3 #[32, 48, 81, 97] l1 = 169 from by rw [hv2]; decide]
      replace h := h.2.2.1 hv2
      refine r_aload_n c175_169 rfl ?_
      refine r_getR c175_170 (oK hK o440) (FX.get (b := 447) x9 (by decide) (by decide +kernel) (by decide)) (by decide) ?_
      refine r_iload_n c175_173 rfl ?_
      refine r_aload_n c175_174 rfl ?_
      refine r_iconst c175_175 ?_
      refine r_bipush c175_176 ?_
      obtain ⟨B38, h⟩ := h
      obtain ⟨n39, h⟩ := h
      obtain ⟨st40, h⟩ := h
      obtain ⟨p41, h⟩ := h
      refine r_call c175_178 rfl rfl (Nat.le_of_ble_eq_true rfl) (okc_r rfl rfl (oK hK o440)) (g163 hK x9 p41 (fun M44 x42 p43 => Bk_v ?_))
      replace h := h M44 x42 p43
      obtain ⟨s45, h⟩ := h
      refine r_ias c175_181 (oK hK o447) (bd l447 s45) ?_
      have x46 := FX.set (v := (okv (tNum B38 n39 (1 : Int) (9 : Int) st40))) (a := 447) (k := (Int.toNat (M8 443 (Int.toNat l1)))) x42 (nfa o447 _)
      refine r_goto c175_182 ?_
      exact h
    by_cases hv3 : l1 = (3 : Int)
    · rw [show tsw 88 113 0 3 #[32, 48, 81, 97] l1 = 185 from by rw [hv3]; decide]
      replace h := h.2.2.2.1 hv3
      refine r_aload_n c175_185 rfl ?_
      refine r_getR c175_186 (oK hK o440) (FX.get (b := 449) x9 (by decide) (by decide +kernel) (by decide)) (by decide) ?_
      refine r_iload_n c175_189 rfl ?_
      refine r_aload_n c175_190 rfl ?_
      refine r_iconst c175_191 ?_
      refine r_bipush c175_192 ?_
      obtain ⟨B47, h⟩ := h
      obtain ⟨n48, h⟩ := h
      obtain ⟨st49, h⟩ := h
      obtain ⟨p50, h⟩ := h
      refine r_call c175_194 rfl rfl (Nat.le_of_ble_eq_true rfl) (okc_r rfl rfl (oK hK o440)) (g163 hK x9 p50 (fun M53 x51 p52 => Bk_v ?_))
      replace h := h M53 x51 p52
      obtain ⟨s54, h⟩ := h
      refine r_ias c175_197 (oK hK o449) (bd l449 s54) ?_
      have x55 := FX.set (v := (okv (tNum B47 n48 (0 : Int) (9 : Int) st49))) (a := 449) (k := (Int.toNat (M8 443 (Int.toNat l1)))) x51 (nfa o449 _)
      refine r_goto c175_198 ?_
      exact h
    have hvd : l1 < (0 : Int) ∨ (3 : Int) < l1 := by omega
    rw [show tsw 88 113 0 3 #[32, 48, 81, 97] l1 = 201 from by unfold tsw; rw [if_pos hvd]; decide]
    replace h := h.2.2.2.2 hvd
    refine r_aload_n c175_201 rfl ?_
    refine r_iconst c175_202 ?_
    refine r_iload_n c175_203 rfl ?_
    refine r_iconst c175_204 ?_
    refine r_icmpP (P := ¬ l1 = (4 : Int)) c175_205 rfl (fun hc56 => ?_) (fun hc56 => ?_)
    · replace h := h.1 hc56
      refine r_iconst c175_213 ?_
      obtain ⟨B58, h⟩ := h
      obtain ⟨n59, h⟩ := h
      obtain ⟨st60, h⟩ := h
      obtain ⟨p61, h⟩ := h
      refine r_call c175_214 rfl rfl (Nat.le_of_ble_eq_true rfl) (okc_r rfl rfl (oK hK o440)) (g163 hK x9 p61 (fun M64 x62 p63 => Bk_v ?_))
      replace h := h M64 x62 p63
      refine r_istore_n c175_217 (Nat.le_of_ble_eq_true rfl) ?_
      refine r_aload_n c175_218 rfl ?_
      refine r_getIe c175_219 (oK hK o440) rfl ?_
      refine r_ifP (P := ¬ (M64 440 5) = (0 : Int)) c175_222 rfl (fun hc65 => ?_) (fun hc65 => ?_)
      · replace h := h.1 hc65
        exact h
      · have hc66 := Classical.not_not.mp hc65
        replace h := h.2 hc66
        refine r_aload_n c175_225 rfl ?_
        refine r_getR c175_226 (oK hK o440) (FX.get (b := 443) x62 (by decide) (by decide +kernel) (by decide)) (by decide) ?_
        refine r_iload_n c175_229 rfl ?_
        refine r_iload_n c175_230 rfl ?_
        obtain ⟨s67, h⟩ := h
        refine r_ias c175_231 (oK hK o443) (bd l443 s67) ?_
        have x68 := FX.set (v := (okv (tNum B58 n59 (0 : Int) (4 : Int) st60))) (a := 443) (k := (Int.toNat l1)) x62 (nfa o443 _)
        refine r_goto c175_232 ?_
        exact h
    · have hc57 := Classical.not_not.mp hc56
      replace h := h.2 hc57
      refine r_bipush c175_208 ?_
      refine r_goto c175_210 ?_
      obtain ⟨B69, h⟩ := h
      obtain ⟨n70, h⟩ := h
      obtain ⟨st71, h⟩ := h
      obtain ⟨p72, h⟩ := h
      refine r_call c175_214 rfl rfl (Nat.le_of_ble_eq_true rfl) (okc_r rfl rfl (oK hK o440)) (g163 hK x9 p72 (fun M75 x73 p74 => Bk_v ?_))
      replace h := h M75 x73 p74
      refine r_istore_n c175_217 (Nat.le_of_ble_eq_true rfl) ?_
      refine r_aload_n c175_218 rfl ?_
      refine r_getIe c175_219 (oK hK o440) rfl ?_
      refine r_ifP (P := ¬ (M75 440 5) = (0 : Int)) c175_222 rfl (fun hc76 => ?_) (fun hc76 => ?_)
      · replace h := h.1 hc76
        exact h
      · have hc77 := Classical.not_not.mp hc76
        replace h := h.2 hc77
        refine r_aload_n c175_225 rfl ?_
        refine r_getR c175_226 (oK hK o440) (FX.get (b := 443) x73 (by decide) (by decide +kernel) (by decide)) (by decide) ?_
        refine r_iload_n c175_229 rfl ?_
        refine r_iload_n c175_230 rfl ?_
        obtain ⟨s78, h⟩ := h
        refine r_ias c175_231 (oK hK o443) (bd l443 s78) ?_
        have x79 := FX.set (v := (okv (tNum B69 n70 (0 : Int) (99 : Int) st71))) (a := 443) (k := (Int.toNat l1)) x73 (nfa o443 _)
        refine r_goto c175_232 ?_
        exact h
  · replace h := h.2 hc1
    exact r_ret c175_65 h
theorem u175_235 {d : Nat} {l1 : Int} {l2 : Int} {l3 : PV} {M : Mem} {K : KK} {Q : RR → Mem → KK → Prop} (hK : K.1 = 923) (hX : FX M)  (h : ((4 : Int) ≤ l1 → ∃ B2 : BY, ∃ n3 : Nat, ∃ st4 : ST, (TM B2 n3 M st4 ∧ (59 : Int) ≠ -1) ∧ (∀ (M8 : Mem), FX M8 → (FrM M M8 ∧ TM B2 n3 M8 (tSign B2 n3 (59 : Int) st4)) → Q (.inl none) M8 K)) ∧ (¬ ((4 : Int) ≤ l1) → (0 ≤ l1 ∧ l1 < (6 : Int)) ∧ (¬ (M 440 5) = (0 : Int) → (0 ≤ l1 ∧ l1 < (6 : Int)) ∧ ∃ B14 : BY, ∃ n15 : Nat, ∃ st16 : ST, (TM B14 n15 (mset M 443 (Int.toNat l1) (w32 ((M 443 (Int.toNat l1)) + (0 : Int)))) st16 ∧ (59 : Int) ≠ -1) ∧ (∀ (M20 : Mem), FX M20 → (FrM (mset M 443 (Int.toNat l1) (w32 ((M 443 (Int.toNat l1)) + (0 : Int)))) M20 ∧ TM B14 n15 M20 (tSign B14 n15 (59 : Int) st16)) → Q (.inl none) M20 K)) ∧ ((M 440 5) = (0 : Int) → (0 ≤ l1 ∧ l1 < (6 : Int)) ∧ ∃ B23 : BY, ∃ n24 : Nat, ∃ st25 : ST, (TM B23 n24 (mset M 443 (Int.toNat l1) (w32 ((M 443 (Int.toNat l1)) + (1 : Int)))) st25 ∧ (59 : Int) ≠ -1) ∧ (∀ (M29 : Mem), FX M29 → (FrM (mset M 443 (Int.toNat l1) (w32 ((M 443 (Int.toNat l1)) + (1 : Int)))) M29 ∧ TM B23 n24 M29 (tSign B23 n24 (59 : Int) st25)) → Q (.inl none) M29 K)))) : Wp (d + 5) 175 235 [vR 440, vI l1, vI l2, l3] [] M K Q := by
  refine r_iload_n c175_235 rfl ?_
  refine r_iconst c175_236 ?_
  refine r_icmpP (P := (4 : Int) ≤ l1) c175_237 rfl (fun hc1 => ?_) (fun hc1 => ?_)
  · replace h := h.1 hc1
    refine r_aload_n c175_261 rfl ?_
    refine r_bipush c175_262 ?_
    obtain ⟨B2, h⟩ := h
    obtain ⟨n3, h⟩ := h
    obtain ⟨st4, h⟩ := h
    obtain ⟨p5, h⟩ := h
    refine r_call c175_264 rfl rfl (Nat.le_of_ble_eq_true rfl) (okc_r rfl rfl (oK hK o440)) (g169 hK hX p5 (fun M8 x6 p7 => Bk_n ?_))
    replace h := h M8 x6 p7
    exact r_ret c175_267 h
  · replace h := h.2 hc1
    refine r_aload_n c175_240 rfl ?_
    refine r_getR c175_241 (oK hK o440) (FX.get (b := 443) hX (by decide) (by decide +kernel) (by decide)) (by decide) ?_
    refine r_iload_n c175_244 rfl ?_
    refine r_dup2 c175_245 ?_
    obtain ⟨s9, h⟩ := h
    refine r_iae c175_246 (oK hK o443) (bd l443 s9) rfl ?_
    refine r_aload_n c175_247 rfl ?_
    refine r_getIe c175_248 (oK hK o440) rfl ?_
    refine r_ifP (P := ¬ (M 440 5) = (0 : Int)) c175_251 rfl (fun hc10 => ?_) (fun hc10 => ?_)
    · replace h := h.1 hc10
      refine r_iconst c175_258 ?_
      refine r_iadd c175_259 ?_
      obtain ⟨s12, h⟩ := h
      refine r_ias c175_260 (oK hK o443) (bd l443 s12) ?_
      have x13 := FX.set (v := (w32 ((M 443 (Int.toNat l1)) + (0 : Int)))) (a := 443) (k := (Int.toNat l1)) hX (nfa o443 _)
      refine r_aload_n c175_261 rfl ?_
      refine r_bipush c175_262 ?_
      obtain ⟨B14, h⟩ := h
      obtain ⟨n15, h⟩ := h
      obtain ⟨st16, h⟩ := h
      obtain ⟨p17, h⟩ := h
      refine r_call c175_264 rfl rfl (Nat.le_of_ble_eq_true rfl) (okc_r rfl rfl (oK hK o440)) (g169 hK x13 p17 (fun M20 x18 p19 => Bk_n ?_))
      replace h := h M20 x18 p19
      exact r_ret c175_267 h
    · have hc11 := Classical.not_not.mp hc10
      replace h := h.2 hc11
      refine r_iconst c175_254 ?_
      refine r_goto c175_255 ?_
      refine r_iadd c175_259 ?_
      obtain ⟨s21, h⟩ := h
      refine r_ias c175_260 (oK hK o443) (bd l443 s21) ?_
      have x22 := FX.set (v := (w32 ((M 443 (Int.toNat l1)) + (1 : Int)))) (a := 443) (k := (Int.toNat l1)) hX (nfa o443 _)
      refine r_aload_n c175_261 rfl ?_
      refine r_bipush c175_262 ?_
      obtain ⟨B23, h⟩ := h
      obtain ⟨n24, h⟩ := h
      obtain ⟨st25, h⟩ := h
      obtain ⟨p26, h⟩ := h
      refine r_call c175_264 rfl rfl (Nat.le_of_ble_eq_true rfl) (okc_r rfl rfl (oK hK o440)) (g169 hK x22 p26 (fun M29 x27 p28 => Bk_n ?_))
      replace h := h M29 x27 p28
      exact r_ret c175_267 h
def CN (M : Mem) (c : Mem) : Prop := (∀ k, k < 6 → M 443 k = c 0 k) ∧ (∀ i : Nat, (i : Int) < c 0 0 → M 445 i = c 1 i) ∧ (∀ i : Nat, (i : Int) < c 0 1 → M (452 + i) 0 = c 2 i ∧ M (452 + i) 1 = c 3 i) ∧ (∀ i : Nat, (i : Int) < c 0 2 → M 447 i = c 4 i) ∧ (∀ i : Nat, (i : Int) < c 0 3 → M 449 i = c 5 i)
def CNo (M : Mem) (x : XC) : Prop := ∀ p, x.1 = .inl p → CN M x.2
def FrD (M M' : Mem) : Prop := ∀ a k, ¬ (a = 443 ∨ a = 445 ∨ a = 447 ∨ a = 449 ∨ (452 ≤ a ∧ a ≤ 457)) → ¬ (a = 440 ∧ 4 ≤ k ∧ k ≤ 7) → M' a k = M a k
theorem FrD.rf {M : Mem} : FrD M M := fun _ _ _ _ => rfl
theorem FrD.tr {M M1 M2 : Mem} (h1 : FrD M M1) (h2 : FrD M1 M2) : FrD M M2 := fun a k p q => (h2 a k p q).trans (h1 a k p q)
theorem FrM.D {M M' : Mem} (h : FrM M M') : FrD M M' := fun a k _ q => h a k (fun r => q ⟨r.1, by omega⟩)
theorem FrD.up {M M1 : Mem} {a k : Nat} {v : Int} (h : FrD M M1) (ha : (a = 443 ∨ a = 445 ∨ a = 447 ∨ a = 449 ∨ (452 ≤ a ∧ a ≤ 457)) ∨ (a = 440 ∧ 4 ≤ k ∧ k ≤ 7)) : FrD M (mset M1 a k v) := by
  intro b j p q
  unfold mset
  rw [if_neg (by rintro ⟨rfl, rfl⟩; rcases ha with ha | ha; exact p ha; exact q ha)]
  exact h b j p q
theorem CN.m {M M' : Mem} {c : Mem} (hw : CW c) (hf : FrM M M') (h : CN M c) : CN M' c := by
  obtain ⟨w0, w1', w2, w3, -⟩ := hw
  exact ⟨fun k hk => (hf 443 k (by omega)).trans (h.1 k hk), fun i hi => (hf 445 i (by omega)).trans (h.2.1 i hi), fun i hi => ⟨(hf _ 0 (by omega)).trans (h.2.2.1 i hi).1, (hf _ 1 (by omega)).trans (h.2.2.1 i hi).2⟩, fun i hi => (hf 447 i (by omega)).trans (h.2.2.2.1 i hi), fun i hi => (hf 449 i (by omega)).trans (h.2.2.2.2 i hi)⟩
theorem TM.set {B : BY} {n : Nat} {M : Mem} {st : ST} {a k : Nat} {v : Int} (h : TM B n M st) (ha : a ≠ 440 ∧ a ≠ 441) : TM B n (mset M a k v) st := h.fr (fun _ _ => ms_na (fun e => ha.1 e.symm)) (fun _ => ms_na (fun e => ha.2 e.symm))
theorem TM.s7 {B : BY} {n : Nat} {M : Mem} {st : ST} {v : Int} (h : TM B n M st) : TM B n (mset M 440 7 v) st := by
  obtain ⟨⟨a1, a2, a3⟩, a, h4, h5, h6⟩ := h
  refine ⟨⟨(ms_nk (by decide)).trans a1, a2, fun i hi => (ms_na (by decide)).trans (a3 i hi)⟩, a, (ms_nk (by decide)).trans h4, h5, ?_⟩
  cases st with
  | inl p => exact ⟨(ms_nk (by decide)).trans h6.1, h6.2⟩
  | inr f => exact ⟨(ms_nk (by decide)).trans h6.1, (ms_nk (by decide)).trans h6.2.1, h6.2.2⟩
section DA
variable {d : Nat} {M : Mem} {K : KK} {Q : RR → Mem → KK → Prop} {B : BY} {n : Nat}
theorem okv_ok {x : Int × ST} {p : Nat} (h : x.2 = .inl p) : okv x = x.1 := by unfold okv; rw [h]
theorem sign_ok2 {c : Int} {st : ST} {p : Nat} (h : tSign B n c st = .inl p) : ∃ q, st = .inl q := sign_ok h
theorem tNum_ok {lo hi : Int} {st : ST} {p : Nat} (h : (tNum B n lo hi st).2 = .inl p) : ∃ q, st = .inl q := by
  cases st with
  | inl q => exact ⟨q, rfl⟩
  | inr f => cases h
theorem g175 {p cl : Nat} {c : Mem} (hK : K.1 = 923) (hX : FX M) (h : TM B n M (.inl p) ∧ CN M c ∧ CW c ∧ M 440 7 = (cl : Int) ∧ cl ≤ 60) (k : ∀ M', FX M' → (FrD M M' ∧ TM B n M' (clF B n cl (.inl p, c)).1 ∧ CNo M' (clF B n cl (.inl p, c)) ∧ ((∃ q, (clF B n cl (.inl p, c)).1 = .inl q) → M' 440 7 = (cl : Int) + 1)) → Q (.inl none) M' K) : Wm (d + 5) 175 [vR 440] M K Q := by
  obtain ⟨ht, hc, hw, h7, hcl⟩ := h
  have hw' := hw
  obtain ⟨w0, w1', w2, w3, w4, w5, -⟩ := hw'
  have hrg := kWd_rg (B := B) (n := n) (st := .inl p)
  -- a fault
  have bad : ∀ (f : Int × Int) (M2 : Mem), FX M2 → FrM M M2 → TM B n M2 (.inr f) → clF B n cl (.inl p, c) = (.inr f, c) → Wp (d + 5) 175 58 [vR 440, vI (kWd B n (.inl p)), vU, vU] [] M2 K Q := by
    intro f M2 x2 f2 t2 hu
    rw [hu] at k
    refine u175_58 hK x2 ⟨fun h0 => ?_, fun _ => k M2 x2 ⟨f2.D, t2, (fun q hq => by cases hq), (fun hq => by obtain ⟨q, hq⟩ := hq; cases hq)⟩⟩
    obtain ⟨q, hq⟩ := (TM_0 t2).mp h0
    cases hq
  -- a clause
  have good : ¬ kWd B n (.inl p) = -1 → ¬ (60 ≤ cl ∨ (kWd B n (.inl p) < 4 ∧ capF (kWd B n (.inl p)) ≤ c 0 (kWd B n (.inl p)).toNat)) → ∀ M2, FX M2 → FrM M M2 → TM B n M2 (.inl p) → AtM M2 (.inl p) → Wp (d + 5) 175 58 [vR 440, vI (kWd B n (.inl p)), vU, vU] [] M2 K Q := by
    intro hk1 hk2 M2 x2 f2 t2 a2
    have hu : clF B n cl (.inl p, c) = (tSign B n 59 (kdF B n (kWd B n (.inl p)) (tWord B n (.inl p)) c).1, (kdF B n (kWd B n (.inl p)) (tWord B n (.inl p)) c).2) := by
      simp only [clF]; rw [if_neg hk1, if_neg hk2]
    have hrg' : 0 ≤ kWd B n (.inl p) ∧ kWd B n (.inl p) ≤ 5 := by
      rcases hrg with h | ⟨h1, h2, -⟩
      · exact absurd h hk1
      · exact ⟨h1, h2⟩
    generalize kWd B n (.inl p) = q at hk1 hk2 hu hrg'
    rw [hu] at k
    have hc2 := hc.m hw f2
    -- the sign behind a counted clause
    have tailA : ∀ (j : Nat) (n9 : Int) (l3 : PV) (M3 : Mem), q = (j : Int) → j < 4 → FX M3 → FrD M M3 → TM B n M3 (kdF B n q (tWord B n (.inl p)) c).1 → (0 ≤ M3 443 j ∧ M3 443 j ≤ 20) → ((∃ r, (kdF B n q (tWord B n (.inl p)) c).1 = .inl r) → CN (mset M3 443 j (M3 443 j + 1)) (kdF B n q (tWord B n (.inl p)) c).2 ∧ M3 440 7 = (cl : Int) + 1) → Wp (d + 5) 175 235 [vR 440, vI q, vI n9, l3] [] M3 K Q := by
      intro j n9 l3 M3 hq hj x3 f3 t3 hb hok
      subst hq
      refine u175_235 hK x3 ⟨fun h => by omega, fun _ => ⟨by omega, fun hne => ⟨by omega, ?_⟩, fun he => ⟨by omega, ?_⟩⟩⟩
      · refine ⟨B, n, _, ⟨t3.set (by decide), by decide⟩, fun M4 x4 p4 => k M4 x4 ⟨(f3.up (Or.inl (Or.inl rfl))).tr p4.1.D, p4.2, ?_, ?_⟩⟩
        · intro r hr
          obtain ⟨r', hr'⟩ := sign_ok hr
          exact absurd ((TM_0 t3).mpr ⟨r', hr'⟩) hne
        · rintro ⟨r, hr⟩
          obtain ⟨r', hr'⟩ := sign_ok hr
          exact absurd ((TM_0 t3).mpr ⟨r', hr'⟩) hne
      · obtain ⟨r, hr⟩ := (TM_0 t3).mp he
        obtain ⟨hcn, h77⟩ := hok ⟨r, hr⟩
        rw [Int.toNat_natCast, w32_id (by omega)]
        refine ⟨B, n, _, ⟨t3.set (by decide), by decide⟩, fun M4 x4 p4 => k M4 x4 ⟨(f3.up (Or.inl (Or.inl rfl))).tr p4.1.D, p4.2, ?_, fun _ => (p4.1 440 7 (by decide)).trans ((ms_na (by decide)).trans h77)⟩⟩
        intro r hr
        exact hcn.m (kdF_w hw hrg' (fun h => hk2 (Or.inr h))) p4.1
    have tailB : ∀ (n9 : Int) (l3 : PV) (M3 : Mem), 4 ≤ q → FX M3 → FrD M M3 → TM B n M3 (kdF B n q (tWord B n (.inl p)) c).1 → ((∃ r, (kdF B n q (tWord B n (.inl p)) c).1 = .inl r) → CN M3 (kdF B n q (tWord B n (.inl p)) c).2 ∧ M3 440 7 = (cl : Int) + 1) → Wp (d + 5) 175 235 [vR 440, vI q, vI n9, l3] [] M3 K Q := by
      intro n9 l3 M3 hq x3 f3 t3 hok
      refine u175_235 hK x3 ⟨fun h => ?_, fun h => absurd hq h⟩
      refine ⟨B, n, _, ⟨t3, by decide⟩, fun M4 x4 p4 => k M4 x4 ⟨f3.tr p4.1.D, p4.2, ?_, ?_⟩⟩
      · intro r hr
        obtain ⟨r', hr'⟩ := sign_ok hr
        exact (hok ⟨r', hr'⟩).1.m (kdF_w hw hrg' (fun h => hk2 (Or.inr h))) p4.1
      · rintro ⟨r, hr⟩
        obtain ⟨r', hr'⟩ := sign_ok hr
        exact (p4.1 440 7 (by decide)).trans (hok ⟨r', hr'⟩).2
    refine u175_58 hK x2 ⟨fun _ => ⟨B, n, _, ⟨t2, a2⟩, fun M3 x3 p3 => ⟨by omega, ?_⟩⟩, fun h0 => absurd ((TM_0 t2).mpr ⟨p, rfl⟩) h0⟩
    have hc3 := hc2.m hw p3.1
    have e7 : M3 440 7 = (cl : Int) := (p3.1 440 7 (by decide)).trans ((f2 440 7 (by decide)).trans h7)
    have e7' : w32 (M3 440 7 + 1) = (cl : Int) + 1 := by rw [e7, w32_id (by omega)]
    rw [e7']
    have f7 : FrD M (mset M3 440 7 ((cl : Int) + 1)) := (f2.D.tr p3.1.D).up (Or.inr (by decide))
    have t7 := p3.2.s7 (v := (cl : Int) + 1)
    have c7 : CN (mset M3 440 7 ((cl : Int) + 1)) c := ⟨fun k hk => (ms_na (by decide)).trans (hc3.1 k hk), fun i hi => (ms_na (by decide)).trans (hc3.2.1 i hi), fun i hi => ⟨(ms_na (by omega)).trans (hc3.2.2.1 i hi).1, (ms_na (by omega)).trans (hc3.2.2.1 i hi).2⟩, fun i hi => (ms_na (by decide)).trans (hc3.2.2.2.1 i hi), fun i hi => (ms_na (by decide)).trans (hc3.2.2.2.2 i hi)⟩
    have m0 : M3 443 0 = c 0 0 := hc3.1 0 (by decide)
    have m1 : M3 443 1 = c 0 1 := hc3.1 1 (by decide)
    have m2 : M3 443 2 = c 0 2 := hc3.1 2 (by decide)
    have m3 : M3 443 3 = c 0 3 := hc3.1 3 (by decide)
    refine ⟨fun e => ?_, fun e => ?_, fun e => ?_, fun e => ?_, fun e => ⟨fun h4 => ?_, fun h4 => ?_⟩⟩
    · subst e
      have hcap : c 0 0 < 12 := by simp [capF] at hk2; omega
      simp only [Int.toNat_zero]
      refine ⟨B, n, _, t7, fun M4 x4 p4 => ⟨by omega, ?_⟩⟩
      have c4 := c7.m hw p4.1
      have e4 : M4 443 0 = c 0 0 := c4.1 0 (by decide)
      refine tailA 0 _ _ _ rfl (by decide) (x4.set (nfa o445 _)) ((f7.tr p4.1.D).up (Or.inl (by decide))) (p4.2.set (by decide)) (by rw [ms_na (by decide)]; omega) ?_
      rintro ⟨r, hr⟩
      have hr : (tNum B n 0 9 (tWord B n (.inl p))).2 = .inl r := hr
      refine ⟨?_, (ms_na (by decide)).trans ((p4.1 440 7 (by decide)).trans ms_eq)⟩
      rw [okv_ok hr, m0, kdF0, ms_na (by decide), e4]
      refine ⟨fun j hj => ?_, fun i => ?_, fun i => ?_, fun i => ?_, fun i => ?_⟩
      · have := c4.1 j hj
        dsimp only [mset]; simp; (try split) <;> omega
      · have := c4.2.1 i
        dsimp only [mset]; simp; (try split) <;> omega
      · have := c4.2.2.1 i
        dsimp only [mset]; simp; (try split) <;> omega
      · have := c4.2.2.2.1 i
        dsimp only [mset]; simp; (try split) <;> omega
      · have := c4.2.2.2.2 i
        dsimp only [mset]; simp; (try split) <;> omega
    · subst e
      have hcap : c 0 1 < 6 := by simp [capF] at hk2; omega
      have hj2 : Int.toNat (1 : Int) = 1 := rfl
      rw [hj2]
      have hro := ro451_all (c 0 1).toNat (by omega)
      refine ⟨by omega, B, n, _, t7, fun M4 x4 p4 => ⟨by omega, B, n, _, p4.2.set (by omega), fun M5 x5 p5 => ?_⟩⟩
      have c4 := c7.m hw p4.1
      rw [m1] at p5 ⊢
      have e5 : M5 443 1 = c 0 1 := (p5.1 443 1 (by decide)).trans ((ms_na (by omega)).trans (c4.1 1 (by decide)))
      refine tailA 1 _ _ _ rfl (by decide) (x5.set (nfa hro.1 _)) ((((f7.tr p4.1.D).up (Or.inl (by omega))).tr p5.1.D).up (Or.inl (by omega))) (p5.2.set (by omega)) (by rw [ms_na (by omega)]; omega) ?_
      rintro ⟨r, hr⟩
      have hr : (tNum B n 1 99 (tNum B n 1 6 (tWord B n (.inl p))).2).2 = .inl r := hr
      obtain ⟨r1, hr1⟩ := tNum_ok hr
      refine ⟨?_, (ms_na (by omega)).trans ((p5.1 440 7 (by decide)).trans ((ms_na (by omega)).trans ((p4.1 440 7 (by decide)).trans ms_eq)))⟩
      rw [okv_ok hr, kdF1, ms_na (by omega), e5]
      have f5 : ∀ a j, a ≠ 440 → M5 a j = mset M4 (452 + (c 0 1).toNat) 0 (tNum B n 1 6 (tWord B n (.inl p))).1 a j := by
        intro a j ha
        have := p5.1 a j (fun h => ha h.1)
        rwa [okv_ok hr1] at this
      refine ⟨fun j hj => ?_, fun i => ?_, fun i => ?_, fun i => ?_, fun i => ?_⟩
      · have := c4.1 j hj
        have f := f5 443 j (by decide)
        rw [ms_na (by omega)] at f
        dsimp only [mset]; rw [f]; simp; (try split) <;> (try split) <;> omega
      · have := c4.2.1 i
        have f := f5 445 i (by decide)
        rw [ms_na (by omega)] at f
        dsimp only [mset]; rw [f]; simp; (try split) <;> omega
      · have := c4.2.2.1 i
        have f := f5 (452 + i) 0 (by omega)
        have g := f5 (452 + i) 1 (by omega)
        rw [ms_nk (by decide)] at g
        dsimp only [mset] at f ⊢; rw [f, g]
        by_cases hi : i = (c 0 1).toNat
        · subst hi; simp; intro _ h; omega
        · simp [hi]; omega
      · have := c4.2.2.2.1 i
        have f := f5 447 i (by decide)
        rw [ms_na (by omega)] at f
        dsimp only [mset]; rw [f]; simp; (try split) <;> omega
      · have := c4.2.2.2.2 i
        have f := f5 449 i (by decide)
        rw [ms_na (by omega)] at f
        dsimp only [mset]; rw [f]; simp; (try split) <;> omega
    · subst e
      have hcap : c 0 2 < 8 := by simp [capF] at hk2; omega
      have hj2 : Int.toNat (2 : Int) = 2 := rfl
      rw [hj2]
      refine ⟨B, n, _, t7, fun M4 x4 p4 => ⟨by omega, ?_⟩⟩
      have c4 := c7.m hw p4.1
      have e4 : M4 443 2 = c 0 2 := c4.1 2 (by decide)
      refine tailA 2 _ _ _ rfl (by decide) (x4.set (nfa o447 _)) ((f7.tr p4.1.D).up (Or.inl (by decide))) (p4.2.set (by decide)) (by rw [ms_na (by decide)]; omega) ?_
      rintro ⟨r, hr⟩
      have hr : (tNum B n 1 9 (tWord B n (.inl p))).2 = .inl r := hr
      refine ⟨?_, (ms_na (by decide)).trans ((p4.1 440 7 (by decide)).trans ms_eq)⟩
      rw [okv_ok hr, m2, kdF2, ms_na (by decide), e4]
      refine ⟨fun j hj => ?_, fun i => ?_, fun i => ?_, fun i => ?_, fun i => ?_⟩
      · have := c4.1 j hj
        dsimp only [mset]; simp; (try split) <;> omega
      · have := c4.2.1 i
        dsimp only [mset]; simp; (try split) <;> omega
      · have := c4.2.2.1 i
        dsimp only [mset]; simp; (try split) <;> omega
      · have := c4.2.2.2.1 i
        dsimp only [mset]; simp; (try split) <;> omega
      · have := c4.2.2.2.2 i
        dsimp only [mset]; simp; (try split) <;> omega
    · subst e
      have hcap : c 0 3 < 7 := by simp [capF] at hk2; omega
      have hj2 : Int.toNat (3 : Int) = 3 := rfl
      rw [hj2]
      refine ⟨B, n, _, t7, fun M4 x4 p4 => ⟨by omega, ?_⟩⟩
      have c4 := c7.m hw p4.1
      have e4 : M4 443 3 = c 0 3 := c4.1 3 (by decide)
      refine tailA 3 _ _ _ rfl (by decide) (x4.set (nfa o449 _)) ((f7.tr p4.1.D).up (Or.inl (by decide))) (p4.2.set (by decide)) (by rw [ms_na (by decide)]; omega) ?_
      rintro ⟨r, hr⟩
      have hr : (tNum B n 0 9 (tWord B n (.inl p))).2 = .inl r := hr
      refine ⟨?_, (ms_na (by decide)).trans ((p4.1 440 7 (by decide)).trans ms_eq)⟩
      rw [okv_ok hr, m3, kdF3, ms_na (by decide), e4]
      refine ⟨fun j hj => ?_, fun i => ?_, fun i => ?_, fun i => ?_, fun i => ?_⟩
      · have := c4.1 j hj
        dsimp only [mset]; simp; (try split) <;> omega
      · have := c4.2.1 i
        dsimp only [mset]; simp; (try split) <;> omega
      · have := c4.2.2.1 i
        dsimp only [mset]; simp; (try split) <;> omega
      · have := c4.2.2.2.1 i
        dsimp only [mset]; simp; (try split) <;> omega
      · have := c4.2.2.2.2 i
        dsimp only [mset]; simp; (try split) <;> omega
    · have e55 : q = 5 := by omega
      subst e55
      refine ⟨B, n, _, t7, fun M4 x4 p4 => ⟨fun hne => tailB _ _ M4 (by decide) x4 (f7.tr p4.1.D) p4.2 ?_, fun he => ⟨by omega, tailB _ _ _ (by decide) (x4.set (nfa o443 _)) ((f7.tr p4.1.D).up (Or.inl (by decide))) (p4.2.set (by decide)) ?_⟩⟩⟩
      · rintro ⟨r, hr⟩
        exact absurd ((TM_0 p4.2).mpr ⟨r, hr⟩) hne
      · have c4 := c7.m hw p4.1
        rintro ⟨r, hr⟩
        have hr : (tNum B n 0 4 (tWord B n (.inl p))).2 = .inl r := hr
        refine ⟨?_, (ms_na (by decide)).trans ((p4.1 440 7 (by decide)).trans ms_eq)⟩
        rw [okv_ok hr, kdF5]
        refine ⟨fun j hj => ?_, fun i => ?_, fun i => ?_, fun i => ?_, fun i => ?_⟩
        · have := c4.1 j hj
          dsimp only [mset]; simp; (try split) <;> (try simp) <;> omega
        · have := c4.2.1 i
          dsimp only [mset]; simp; omega
        · have := c4.2.2.1 i
          dsimp only [mset]; simp; omega
        · have := c4.2.2.2.1 i
          dsimp only [mset]; simp; omega
        · have := c4.2.2.2.2 i
          dsimp only [mset]; simp; omega
    · subst h4
      refine ⟨B, n, _, t7, fun M4 x4 p4 => ⟨fun hne => tailB _ _ M4 (by decide) x4 (f7.tr p4.1.D) p4.2 ?_, fun he => ⟨by omega, tailB _ _ _ (by decide) (x4.set (nfa o443 _)) ((f7.tr p4.1.D).up (Or.inl (by decide))) (p4.2.set (by decide)) ?_⟩⟩⟩
      · rintro ⟨r, hr⟩
        exact absurd ((TM_0 p4.2).mpr ⟨r, hr⟩) hne
      · have c4 := c7.m hw p4.1
        rintro ⟨r, hr⟩
        have hr : (tNum B n 0 99 (tWord B n (.inl p))).2 = .inl r := hr
        refine ⟨?_, (ms_na (by decide)).trans ((p4.1 440 7 (by decide)).trans ms_eq)⟩
        rw [okv_ok hr, kdF4]
        refine ⟨fun j hj => ?_, fun i => ?_, fun i => ?_, fun i => ?_, fun i => ?_⟩
        · have := c4.1 j hj
          dsimp only [mset]; simp; (try split) <;> (try simp) <;> omega
        · have := c4.2.1 i
          dsimp only [mset]; simp; omega
        · have := c4.2.2.1 i
          dsimp only [mset]; simp; omega
        · have := c4.2.2.2.1 i
          dsimp only [mset]; simp; omega
        · have := c4.2.2.2.2 i
          dsimp only [mset]; simp; omega
  refine u175_0 hK hX ⟨B, n, _, ht, fun M1 x1 p1 => ?_⟩
  have hat : M1 440 4 = (p : Int) := p1.2.2
  have c1 := hc.m hw p1.1
  have e7 : M1 440 7 = (cl : Int) := (p1.1 440 7 (by decide)).trans h7
  rw [hat]
  refine ⟨fun hne => ⟨fun h60 => ⟨B, n, _, ⟨p1.2.1, by decide⟩, fun M2 x2 p2 => bad (3, (p : Int)) M2 x2 (p1.1.tr p2.1) p2.2.1 ?_⟩, fun hn60 => ⟨fun h4 => good hne ?_ M1 x1 p1.1 p1.2.1 p1.2.2, fun h4 => ⟨?_, fun hnc => good hne ?_ M1 x1 p1.1 p1.2.1 p1.2.2, fun hcap => ⟨B, n, _, ⟨p1.2.1, by decide⟩, fun M2 x2 p2 => bad (3, (p : Int)) M2 x2 (p1.1.tr p2.1) p2.2.1 ?_⟩⟩⟩⟩, fun heq => ⟨B, n, _, ⟨p1.2.1, by decide⟩, fun M2 x2 p2 => bad (1, (p : Int)) M2 x2 (p1.1.tr p2.1) p2.2.1 ?_⟩⟩
  · simp only [clF]; rw [if_neg hne, if_pos (Or.inl (by omega))]
  · rintro (h | h)
    · omega
    · omega
  · rcases hrg with h | ⟨h1, h2, -⟩
    · exact absurd h hne
    · omega
  · have hr2 : 0 ≤ kWd B n (.inl p) ∧ kWd B n (.inl p) ≤ 5 := by
      rcases hrg with h | ⟨h1, h2, -⟩
      · exact absurd h hne
      · exact ⟨h1, h2⟩
    have hle : c 0 (kWd B n (.inl p)).toNat ≤ capF (kWd B n (.inl p)) := by
      generalize kWd B n (.inl p) = q at hr2 h4
      rcases (show q = 0 ∨ q = 1 ∨ q = 2 ∨ q = 3 by omega) with rfl | rfl | rfl | rfl <;> simp [capF] <;> omega
    rw [c1.1 _ (by omega)] at hnc
    rintro (h | h)
    · omega
    · omega
  · have hr2 : 0 ≤ kWd B n (.inl p) ∧ kWd B n (.inl p) ≤ 5 := by
      rcases hrg with h | ⟨h1, h2, -⟩
      · exact absurd h hne
      · exact ⟨h1, h2⟩
    rw [c1.1 _ (by omega)] at hcap
    simp only [clF]; rw [if_neg hne, if_pos (Or.inr ⟨by omega, by omega⟩)]
  · simp only [clF]; rw [if_pos heq]
end DA
