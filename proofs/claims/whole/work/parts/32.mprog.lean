/-! a program is read: the model -/
theorem u189_0 {d : Nat}  {M : Mem} {K : KK} {Q : RR → Mem → KK → Prop} (hK : K.1 = 923) (hX : FX M)  (h : ∃ B1 : BY, ∃ n2 : Nat, ∃ st3 : ST, ∃ s4 : Nat, (TM B1 n2 M st3 ∧ WC (12 : Int) (1 : Int) (25 : Int) (0 : Int) (0 : Int) (0 : Int) s4) ∧ (∀ (M8 : Mem), FX M8 → (FrM M M8 ∧ TM B1 n2 M8 st3 ∧ AtM M8 st3) → (¬ (isWd B1 n2 st3 s4 = true) → ∃ B11 : BY, ∃ n12 : Nat, ∃ st13 : ST, ∃ s14 : Nat, (TM B11 n12 M8 st13 ∧ WC (6 : Int) (15 : Int) (12 : Int) (4 : Int) (0 : Int) (0 : Int) s14) ∧ (∀ (M18 : Mem), FX M18 → (FrM M8 M18 ∧ TM B11 n12 M18 st13 ∧ AtM M18 st13) → (¬ (isWd B11 n12 st13 s14 = true) → ∃ B21 : BY, ∃ n22 : Nat, ∃ st23 : ST, ∃ s24 : Nat, (TM B21 n22 M18 st23 ∧ WC (23 : Int) (5 : Int) (20 : Int) (0 : Int) (0 : Int) (0 : Int) s24) ∧ (∀ (M28 : Mem), FX M28 → (FrM M18 M28 ∧ TM B21 n22 M28 st23 ∧ AtM M28 st23) → (¬ (isWd B21 n22 st23 s24 = true) → ∃ B31 : BY, ∃ n32 : Nat, ∃ st33 : ST, ∃ s34 : Nat, (TM B31 n32 M28 st33 ∧ WC (13 : Int) (9 : Int) (12 : Int) (11 : Int) (0 : Int) (0 : Int) s34) ∧ (∀ (M38 : Mem), FX M38 → (FrM M28 M38 ∧ TM B31 n32 M38 st33 ∧ AtM M38 st33) → (¬ (isWd B31 n32 st33 s34 = true) → ∃ B41 : BY, ∃ n42 : Nat, ∃ st43 : ST, ∃ s44 : Nat, (TM B41 n42 M38 st43 ∧ WC (13 : Int) (15 : Int) (12 : Int) (5 : Int) (0 : Int) (0 : Int) s44) ∧ (∀ (M48 : Mem), FX M48 → (FrM M38 M48 ∧ TM B41 n42 M48 st43 ∧ AtM M48 st43) → (¬ (isWd B41 n42 st43 s44 = true) → ∃ B51 : BY, ∃ n52 : Nat, ∃ st53 : ST, ∃ s54 : Nat, (TM B51 n52 M48 st53 ∧ WC (4 : Int) (1 : Int) (25 : Int) (0 : Int) (0 : Int) (0 : Int) s54) ∧ (∀ (M58 : Mem), FX M58 → (FrM M48 M58 ∧ TM B51 n52 M58 st53 ∧ AtM M58 st53) → (¬ (isWd B51 n52 st53 s54 = true) → ∃ B61 : BY, ∃ n62 : Nat, ∃ st63 : ST, ∃ s64 : Nat, (TM B61 n62 M58 st63 ∧ WC (1 : Int) (7 : Int) (1 : Int) (9 : Int) (14 : Int) (0 : Int) s64) ∧ (∀ (M68 : Mem), FX M68 → (FrM M58 M68 ∧ TM B61 n62 M68 st63 ∧ AtM M68 st63) → (¬ (isWd B61 n62 st63 s64 = true) → Q (.inl (some (vI (-1 : Int)))) M68 K) ∧ ((isWd B61 n62 st63 s64 = true) → Q (.inl (some (vI (6 : Int)))) M68 K))) ∧ ((isWd B51 n52 st53 s54 = true) → Q (.inl (some (vI (5 : Int)))) M58 K))) ∧ ((isWd B41 n42 st43 s44 = true) → Q (.inl (some (vI (4 : Int)))) M48 K))) ∧ ((isWd B31 n32 st33 s34 = true) → Q (.inl (some (vI (3 : Int)))) M38 K))) ∧ ((isWd B21 n22 st23 s24 = true) → Q (.inl (some (vI (2 : Int)))) M28 K))) ∧ ((isWd B11 n12 st13 s14 = true) → Q (.inl (some (vI (1 : Int)))) M18 K))) ∧ ((isWd B1 n2 st3 s4 = true) → Q (.inl (some (vI (0 : Int)))) M8 K))) : Wp (d + 4) 189 0 [vR 440] [] M K Q := by
  refine r_aload_n c189_0 rfl ?_
  refine r_bipush c189_1 ?_
  refine r_iconst c189_3 ?_
  refine r_bipush c189_4 ?_
  refine r_iconst c189_6 ?_
  refine r_iconst c189_7 ?_
  refine r_iconst c189_8 ?_
  obtain ⟨B1, h⟩ := h
  obtain ⟨n2, h⟩ := h
  obtain ⟨st3, h⟩ := h
  obtain ⟨s4, h⟩ := h
  obtain ⟨p5, h⟩ := h
  refine r_call c189_9 rfl rfl (Nat.le_of_ble_eq_true rfl) (okc_r rfl rfl (oK hK o440)) (g166 hK hX p5 (fun M8 x6 p7 => Bk_v ?_))
  replace h := h M8 x6 p7
  refine r_ifP (P := ¬ (isWd B1 n2 st3 s4 = true)) c189_12 bI_eq (fun hc9 => ?_) (fun hc9 => ?_)
  · replace h := h.1 hc9
    refine r_aload_n c189_17 rfl ?_
    refine r_bipush c189_18 ?_
    refine r_bipush c189_20 ?_
    refine r_bipush c189_22 ?_
    refine r_iconst c189_24 ?_
    refine r_iconst c189_25 ?_
    refine r_iconst c189_26 ?_
    obtain ⟨B11, h⟩ := h
    obtain ⟨n12, h⟩ := h
    obtain ⟨st13, h⟩ := h
    obtain ⟨s14, h⟩ := h
    obtain ⟨p15, h⟩ := h
    refine r_call c189_27 rfl rfl (Nat.le_of_ble_eq_true rfl) (okc_r rfl rfl (oK hK o440)) (g166 hK x6 p15 (fun M18 x16 p17 => Bk_v ?_))
    replace h := h M18 x16 p17
    refine r_ifP (P := ¬ (isWd B11 n12 st13 s14 = true)) c189_30 bI_eq (fun hc19 => ?_) (fun hc19 => ?_)
    · replace h := h.1 hc19
      refine r_aload_n c189_35 rfl ?_
      refine r_bipush c189_36 ?_
      refine r_iconst c189_38 ?_
      refine r_bipush c189_39 ?_
      refine r_iconst c189_41 ?_
      refine r_iconst c189_42 ?_
      refine r_iconst c189_43 ?_
      obtain ⟨B21, h⟩ := h
      obtain ⟨n22, h⟩ := h
      obtain ⟨st23, h⟩ := h
      obtain ⟨s24, h⟩ := h
      obtain ⟨p25, h⟩ := h
      refine r_call c189_44 rfl rfl (Nat.le_of_ble_eq_true rfl) (okc_r rfl rfl (oK hK o440)) (g166 hK x16 p25 (fun M28 x26 p27 => Bk_v ?_))
      replace h := h M28 x26 p27
      refine r_ifP (P := ¬ (isWd B21 n22 st23 s24 = true)) c189_47 bI_eq (fun hc29 => ?_) (fun hc29 => ?_)
      · replace h := h.1 hc29
        refine r_aload_n c189_52 rfl ?_
        refine r_bipush c189_53 ?_
        refine r_bipush c189_55 ?_
        refine r_bipush c189_57 ?_
        refine r_bipush c189_59 ?_
        refine r_iconst c189_61 ?_
        refine r_iconst c189_62 ?_
        obtain ⟨B31, h⟩ := h
        obtain ⟨n32, h⟩ := h
        obtain ⟨st33, h⟩ := h
        obtain ⟨s34, h⟩ := h
        obtain ⟨p35, h⟩ := h
        refine r_call c189_63 rfl rfl (Nat.le_of_ble_eq_true rfl) (okc_r rfl rfl (oK hK o440)) (g166 hK x26 p35 (fun M38 x36 p37 => Bk_v ?_))
        replace h := h M38 x36 p37
        refine r_ifP (P := ¬ (isWd B31 n32 st33 s34 = true)) c189_66 bI_eq (fun hc39 => ?_) (fun hc39 => ?_)
        · replace h := h.1 hc39
          refine r_aload_n c189_71 rfl ?_
          refine r_bipush c189_72 ?_
          refine r_bipush c189_74 ?_
          refine r_bipush c189_76 ?_
          refine r_iconst c189_78 ?_
          refine r_iconst c189_79 ?_
          refine r_iconst c189_80 ?_
          obtain ⟨B41, h⟩ := h
          obtain ⟨n42, h⟩ := h
          obtain ⟨st43, h⟩ := h
          obtain ⟨s44, h⟩ := h
          obtain ⟨p45, h⟩ := h
          refine r_call c189_81 rfl rfl (Nat.le_of_ble_eq_true rfl) (okc_r rfl rfl (oK hK o440)) (g166 hK x36 p45 (fun M48 x46 p47 => Bk_v ?_))
          replace h := h M48 x46 p47
          refine r_ifP (P := ¬ (isWd B41 n42 st43 s44 = true)) c189_84 bI_eq (fun hc49 => ?_) (fun hc49 => ?_)
          · replace h := h.1 hc49
            refine r_aload_n c189_89 rfl ?_
            refine r_iconst c189_90 ?_
            refine r_iconst c189_91 ?_
            refine r_bipush c189_92 ?_
            refine r_iconst c189_94 ?_
            refine r_iconst c189_95 ?_
            refine r_iconst c189_96 ?_
            obtain ⟨B51, h⟩ := h
            obtain ⟨n52, h⟩ := h
            obtain ⟨st53, h⟩ := h
            obtain ⟨s54, h⟩ := h
            obtain ⟨p55, h⟩ := h
            refine r_call c189_97 rfl rfl (Nat.le_of_ble_eq_true rfl) (okc_r rfl rfl (oK hK o440)) (g166 hK x46 p55 (fun M58 x56 p57 => Bk_v ?_))
            replace h := h M58 x56 p57
            refine r_ifP (P := ¬ (isWd B51 n52 st53 s54 = true)) c189_100 bI_eq (fun hc59 => ?_) (fun hc59 => ?_)
            · replace h := h.1 hc59
              refine r_aload_n c189_105 rfl ?_
              refine r_iconst c189_106 ?_
              refine r_bipush c189_107 ?_
              refine r_iconst c189_109 ?_
              refine r_bipush c189_110 ?_
              refine r_bipush c189_112 ?_
              refine r_iconst c189_114 ?_
              obtain ⟨B61, h⟩ := h
              obtain ⟨n62, h⟩ := h
              obtain ⟨st63, h⟩ := h
              obtain ⟨s64, h⟩ := h
              obtain ⟨p65, h⟩ := h
              refine r_call c189_115 rfl rfl (Nat.le_of_ble_eq_true rfl) (okc_r rfl rfl (oK hK o440)) (g166 hK x56 p65 (fun M68 x66 p67 => Bk_v ?_))
              replace h := h M68 x66 p67
              refine r_ifP (P := ¬ (isWd B61 n62 st63 s64 = true)) c189_118 bI_eq (fun hc69 => ?_) (fun hc69 => ?_)
              · replace h := h.1 hc69
                refine r_iconst c189_126 ?_
                exact r_iret c189_127 (Or.inl rfl) h
              · have hc70 := Classical.not_not.mp hc69
                replace h := h.2 hc70
                refine r_bipush c189_121 ?_
                refine r_goto c189_123 ?_
                exact r_iret c189_127 (Or.inl rfl) h
            · have hc60 := Classical.not_not.mp hc59
              replace h := h.2 hc60
              refine r_iconst c189_103 ?_
              exact r_iret c189_104 (Or.inl rfl) h
          · have hc50 := Classical.not_not.mp hc49
            replace h := h.2 hc50
            refine r_iconst c189_87 ?_
            exact r_iret c189_88 (Or.inl rfl) h
        · have hc40 := Classical.not_not.mp hc39
          replace h := h.2 hc40
          refine r_iconst c189_69 ?_
          exact r_iret c189_70 (Or.inl rfl) h
      · have hc30 := Classical.not_not.mp hc29
        replace h := h.2 hc30
        refine r_iconst c189_50 ?_
        exact r_iret c189_51 (Or.inl rfl) h
    · have hc20 := Classical.not_not.mp hc19
      replace h := h.2 hc20
      refine r_iconst c189_33 ?_
      exact r_iret c189_34 (Or.inl rfl) h
  · have hc10 := Classical.not_not.mp hc9
    replace h := h.2 hc10
    refine r_iconst c189_15 ?_
    exact r_iret c189_16 (Or.inl rfl) h
theorem g189 {d : Nat} {M : Mem} {K : KK} {Q : RR → Mem → KK → Prop} {B : BY} {n : Nat} {st : ST} (hK : K.1 = 923) (hX : FX M) (h : TM B n M st) (k : ∀ M', FX M' → (FrM M M' ∧ TM B n M' st ∧ AtM M' st) → Q (.inl (some (vI (stW B n st)))) M' K) : Wm (d + 4) 189 [vR 440] M K Q := by
  have hW : ∀ s, isWd B n st s = true → ∃ p, st = .inl p ∧ wdL B p (sp isS B n p) = wL s := by
    intro s hs
    cases st with
    | inl p => exact ⟨p, rfl, by simpa [isWd] using hs⟩
    | inr f => cases hs
  have hN : ∀ s p, st = .inl p → ¬ isWd B n st s = true → ¬ wdL B p (sp isS B n p) = wL s := by
    intro s p hp hs hw
    subst hp
    exact hs (by simp [isWd, hw])
  refine u189_0 hK hX ⟨B, n, st, 18, ⟨h, by decide +kernel⟩, fun M1 x1 p1 => ⟨fun n0 => ⟨B, n, st, 19, ⟨p1.2.1, by decide +kernel⟩, fun M2 x2 p2 => ⟨fun n1 => ⟨B, n, st, 20, ⟨p2.2.1, by decide +kernel⟩, fun M3 x3 p3 => ⟨fun n2 => ⟨B, n, st, 21, ⟨p3.2.1, by decide +kernel⟩, fun M4 x4 p4 => ⟨fun n3 => ⟨B, n, st, 22, ⟨p4.2.1, by decide +kernel⟩, fun M5 x5 p5 => ⟨fun n4 => ⟨B, n, st, 23, ⟨p5.2.1, by decide +kernel⟩, fun M6 x6 p6 => ⟨fun n5 => ⟨B, n, st, 24, ⟨p6.2.1, by decide +kernel⟩, fun M7 x7 p7 => ⟨fun n6 => ?_, fun y6 => ?_⟩⟩, fun y5 => ?_⟩⟩, fun y4 => ?_⟩⟩, fun y3 => ?_⟩⟩, fun y2 => ?_⟩⟩, fun y1 => ?_⟩⟩, fun y0 => ?_⟩⟩
  · have e : stW B n st = -1 := by
      cases st with
      | inr f => rfl
      | inl p => simp only [stW, nmOf]; rw [if_neg (hN 18 p rfl n0), if_neg (hN 19 p rfl n1), if_neg (hN 20 p rfl n2), if_neg (hN 21 p rfl n3), if_neg (hN 22 p rfl n4), if_neg (hN 23 p rfl n5), if_neg (hN 24 p rfl n6)]
    have := k M7 x7 ⟨((((((p1.1).tr p2.1).tr p3.1).tr p4.1).tr p5.1).tr p6.1).tr p7.1, p7.2⟩
    rwa [e] at this
  · have e : stW B n st = 6 := by
      obtain ⟨p, rfl, hw⟩ := hW 24 y6
      simp only [stW, nmOf]; rw [if_neg (hN 18 p rfl n0), if_neg (hN 19 p rfl n1), if_neg (hN 20 p rfl n2), if_neg (hN 21 p rfl n3), if_neg (hN 22 p rfl n4), if_neg (hN 23 p rfl n5), if_pos hw]; rfl
    have := k M7 x7 ⟨((((((p1.1).tr p2.1).tr p3.1).tr p4.1).tr p5.1).tr p6.1).tr p7.1, p7.2⟩
    rwa [e] at this
  · have e : stW B n st = 5 := by
      obtain ⟨p, rfl, hw⟩ := hW 23 y5
      simp only [stW, nmOf]; rw [if_neg (hN 18 p rfl n0), if_neg (hN 19 p rfl n1), if_neg (hN 20 p rfl n2), if_neg (hN 21 p rfl n3), if_neg (hN 22 p rfl n4), if_pos hw]; rfl
    have := k M6 x6 ⟨(((((p1.1).tr p2.1).tr p3.1).tr p4.1).tr p5.1).tr p6.1, p6.2⟩
    rwa [e] at this
  · have e : stW B n st = 4 := by
      obtain ⟨p, rfl, hw⟩ := hW 22 y4
      simp only [stW, nmOf]; rw [if_neg (hN 18 p rfl n0), if_neg (hN 19 p rfl n1), if_neg (hN 20 p rfl n2), if_neg (hN 21 p rfl n3), if_pos hw]; rfl
    have := k M5 x5 ⟨((((p1.1).tr p2.1).tr p3.1).tr p4.1).tr p5.1, p5.2⟩
    rwa [e] at this
  · have e : stW B n st = 3 := by
      obtain ⟨p, rfl, hw⟩ := hW 21 y3
      simp only [stW, nmOf]; rw [if_neg (hN 18 p rfl n0), if_neg (hN 19 p rfl n1), if_neg (hN 20 p rfl n2), if_pos hw]; rfl
    have := k M4 x4 ⟨(((p1.1).tr p2.1).tr p3.1).tr p4.1, p4.2⟩
    rwa [e] at this
  · have e : stW B n st = 2 := by
      obtain ⟨p, rfl, hw⟩ := hW 20 y2
      simp only [stW, nmOf]; rw [if_neg (hN 18 p rfl n0), if_neg (hN 19 p rfl n1), if_pos hw]; rfl
    have := k M3 x3 ⟨((p1.1).tr p2.1).tr p3.1, p3.2⟩
    rwa [e] at this
  · have e : stW B n st = 1 := by
      obtain ⟨p, rfl, hw⟩ := hW 19 y1
      simp only [stW, nmOf]; rw [if_neg (hN 18 p rfl n0), if_pos hw]; rfl
    have := k M2 x2 ⟨(p1.1).tr p2.1, p2.2⟩
    rwa [e] at this
  · have e : stW B n st = 0 := by
      obtain ⟨p, rfl, hw⟩ := hW 18 y0
      simp only [stW, nmOf]; rw [if_pos hw]
    have := k M1 x1 ⟨p1.1, p1.2⟩
    rwa [e] at this
theorem u190_0 {d : Nat}  {M : Mem} {K : KK} {Q : RR → Mem → KK → Prop} (hK : K.1 = 923) (hX : FX M)  (h : ∃ B1 : BY, ∃ n2 : Nat, ∃ st3 : ST, TM B1 n2 M st3 ∧ (∀ (M7 : Mem), FX M7 → (FrM M M7 ∧ TM B1 n2 M7 st3 ∧ AtM M7 st3) → (¬ (stW B1 n2 st3) = (-1 : Int) → (¬ (stW B1 n2 st3) = (6 : Int) → Wp (d + 5) 190 33 [vR 440, vI (stW B1 n2 st3), vU] [] M7 K Q) ∧ ((stW B1 n2 st3) = (6 : Int) → ∃ B12 : BY, ∃ n13 : Nat, ∃ st14 : ST, ∃ op15 : Int, (TM B12 n13 M7 st14 ∧ AtM M7 st14 ∧ ∀ p, st14 = .inl p → M7 440 8 = op15 ∧ 0 ≤ op15 ∧ op15 ≤ 6) ∧ (∀ (M19 : Mem), FX M19 → (FrO M7 M19 ∧ TM B12 n13 M19 (tOpen op15 st14) ∧ (∀ o, CMo M7 o → CMo M19 o) ∧ ((st14.isLeft = true ∧ op15 ≠ 6) → M19 440 8 = op15 + 1 ∧ AtM M19 st14)) → ((st14.isLeft = true ∧ op15 ≠ 6) → Wp (d + 5) 190 33 [vR 440, vI (stW B1 n2 st3), vU] [] M19 K Q) ∧ (¬ (st14.isLeft = true ∧ op15 ≠ 6) → Q (.inl none) M19 K)))) ∧ ((stW B1 n2 st3) = (-1 : Int) → ∃ B21 : BY, ∃ n22 : Nat, ∃ st23 : ST, (TM B21 n22 M7 st23 ∧ (1 : Int) ≠ 0) ∧ (∀ (M27 : Mem), FX M27 → (FrM M7 M27 ∧ TM B21 n22 M27 (tFail (1 : Int) (M7 440 4) st23) ∧ M27 440 4 = M7 440 4) → (¬ (stW B1 n2 st3) = (6 : Int) → Wp (d + 5) 190 33 [vR 440, vI (stW B1 n2 st3), vU] [] M27 K Q) ∧ ((stW B1 n2 st3) = (6 : Int) → ∃ B30 : BY, ∃ n31 : Nat, ∃ st32 : ST, ∃ op33 : Int, (TM B30 n31 M27 st32 ∧ AtM M27 st32 ∧ ∀ p, st32 = .inl p → M27 440 8 = op33 ∧ 0 ≤ op33 ∧ op33 ≤ 6) ∧ (∀ (M37 : Mem), FX M37 → (FrO M27 M37 ∧ TM B30 n31 M37 (tOpen op33 st32) ∧ (∀ o, CMo M27 o → CMo M37 o) ∧ ((st32.isLeft = true ∧ op33 ≠ 6) → M37 440 8 = op33 + 1 ∧ AtM M37 st32)) → ((st32.isLeft = true ∧ op33 ≠ 6) → Wp (d + 5) 190 33 [vR 440, vI (stW B1 n2 st3), vU] [] M37 K Q) ∧ (¬ (st32.isLeft = true ∧ op33 ≠ 6) → Q (.inl none) M37 K))))))) : Wp (d + 5) 190 0 [vR 440, vU, vU] [] M K Q := by
  refine r_aload_n c190_0 rfl ?_
  obtain ⟨B1, h⟩ := h
  obtain ⟨n2, h⟩ := h
  obtain ⟨st3, h⟩ := h
  obtain ⟨p4, h⟩ := h
  refine r_call c190_1 rfl rfl (Nat.le_of_ble_eq_true rfl) (okc_r rfl rfl (oK hK o440)) (g189 hK hX p4 (fun M7 x5 p6 => Bk_v ?_))
  replace h := h M7 x5 p6
  refine r_istore_n c190_4 (Nat.le_of_ble_eq_true rfl) ?_
  refine r_iload_n c190_5 rfl ?_
  refine r_iconst c190_6 ?_
  refine r_icmpP (P := ¬ (stW B1 n2 st3) = (-1 : Int)) c190_7 rfl (fun hc8 => ?_) (fun hc8 => ?_)
  · replace h := h.1 hc8
    refine r_iload_n c190_19 rfl ?_
    refine r_bipush c190_20 ?_
    refine r_icmpP (P := ¬ (stW B1 n2 st3) = (6 : Int)) c190_22 rfl (fun hc10 => ?_) (fun hc10 => ?_)
    · replace h := h.1 hc10
      exact h
    · have hc11 := Classical.not_not.mp hc10
      replace h := h.2 hc11
      refine r_aload_n c190_25 rfl ?_
      obtain ⟨B12, h⟩ := h
      obtain ⟨n13, h⟩ := h
      obtain ⟨st14, h⟩ := h
      obtain ⟨op15, h⟩ := h
      obtain ⟨p16, h⟩ := h
      refine r_call c190_26 rfl rfl (Nat.le_of_ble_eq_true rfl) (okc_r rfl rfl (oK hK o440)) (g181 hK x5 p16 (fun M19 x17 p18 => Bk_v ?_))
      replace h := h M19 x17 p18
      refine r_ifP (P := (st14.isLeft = true ∧ op15 ≠ 6)) c190_29 bI_ne (fun hc20 => ?_) (fun hc20 => ?_)
      · replace h := h.1 hc20
        exact h
      · replace h := h.2 hc20
        exact r_ret c190_32 h
  · have hc9 := Classical.not_not.mp hc8
    replace h := h.2 hc9
    refine r_aload_n c190_10 rfl ?_
    refine r_iconst c190_11 ?_
    refine r_aload_n c190_12 rfl ?_
    refine r_getIe c190_13 (oK hK o440) rfl ?_
    obtain ⟨B21, h⟩ := h
    obtain ⟨n22, h⟩ := h
    obtain ⟨st23, h⟩ := h
    obtain ⟨p24, h⟩ := h
    refine r_call c190_16 rfl rfl (Nat.le_of_ble_eq_true rfl) (okc_r rfl rfl (oK hK o440)) (g160 hK x5 p24 (fun M27 x25 p26 => Bk_n ?_))
    replace h := h M27 x25 p26
    refine r_iload_n c190_19 rfl ?_
    refine r_bipush c190_20 ?_
    refine r_icmpP (P := ¬ (stW B1 n2 st3) = (6 : Int)) c190_22 rfl (fun hc28 => ?_) (fun hc28 => ?_)
    · replace h := h.1 hc28
      exact h
    · have hc29 := Classical.not_not.mp hc28
      replace h := h.2 hc29
      refine r_aload_n c190_25 rfl ?_
      obtain ⟨B30, h⟩ := h
      obtain ⟨n31, h⟩ := h
      obtain ⟨st32, h⟩ := h
      obtain ⟨op33, h⟩ := h
      obtain ⟨p34, h⟩ := h
      refine r_call c190_26 rfl rfl (Nat.le_of_ble_eq_true rfl) (okc_r rfl rfl (oK hK o440)) (g181 hK x25 p34 (fun M37 x35 p36 => Bk_v ?_))
      replace h := h M37 x35 p36
      refine r_ifP (P := (st32.isLeft = true ∧ op33 ≠ 6)) c190_29 bI_ne (fun hc38 => ?_) (fun hc38 => ?_)
      · replace h := h.1 hc38
        exact h
      · replace h := h.2 hc38
        exact r_ret c190_32 h
theorem u190_33 {d : Nat} {l1 : Int} {M : Mem} {K : KK} {Q : RR → Mem → KK → Prop} (hK : K.1 = 923) (hX : FX M)  (h : ((M 440 5) = (0 : Int) → ∃ B2 : BY, ∃ n3 : Nat, ∃ st4 : ST, (TM B2 n3 M st4 ∧ AtM M st4) ∧ (∀ (M8 : Mem), FX M8 → (FrM M M8 ∧ TM B2 n3 M8 (tWord B2 n3 st4)) → (0 ≤ (M8 440 30) ∧ (M8 440 30) < (80 : Int)) ∧ ((4 : Int) ≤ l1 → Wp (d + 5) 190 90 [vR 440, vI l1, vR (808 + Int.toNat (M8 440 30))] [] (mset (mset M8 440 30 (w32 ((M8 440 30) + (1 : Int)))) (808 + Int.toNat (M8 440 30)) 0 l1) K Q) ∧ (¬ ((4 : Int) ≤ l1) → ∃ B13 : BY, ∃ n14 : Nat, ∃ st15 : ST, TM B13 n14 (mset (mset M8 440 30 (w32 ((M8 440 30) + (1 : Int)))) (808 + Int.toNat (M8 440 30)) 0 l1) st15 ∧ (∀ (M19 : Mem), FX M19 → (FrM (mset (mset M8 440 30 (w32 ((M8 440 30) + (1 : Int)))) (808 + Int.toNat (M8 440 30)) 0 l1) M19 ∧ TM B13 n14 M19 (tNum B13 n14 (0 : Int) (w32 ((M8 444 1) - (1 : Int))) st15).2) → Wp (d + 5) 190 90 [vR 440, vI l1, vR (808 + Int.toNat (M8 440 30))] [] (mset M19 (808 + Int.toNat (M8 440 30)) 1 (okv (tNum B13 n14 (0 : Int) (w32 ((M8 444 1) - (1 : Int))) st15))) K Q)))) ∧ (¬ ((M 440 5) = (0 : Int)) → Q (.inl none) M K)) : Wp (d + 5) 190 33 [vR 440, vI l1, vU] [] M K Q := by
  refine r_aload_n c190_33 rfl ?_
  refine r_getIe c190_34 (oK hK o440) rfl ?_
  refine r_ifP (P := (M 440 5) = (0 : Int)) c190_37 rfl (fun hc1 => ?_) (fun hc1 => ?_)
  · replace h := h.1 hc1
    refine r_aload_n c190_41 rfl ?_
    obtain ⟨B2, h⟩ := h
    obtain ⟨n3, h⟩ := h
    obtain ⟨st4, h⟩ := h
    obtain ⟨p5, h⟩ := h
    refine r_call c190_42 rfl rfl (Nat.le_of_ble_eq_true rfl) (okc_r rfl rfl (oK hK o440)) (g167 hK hX p5 (fun M8 x6 p7 => Bk_n ?_))
    replace h := h M8 x6 p7
    refine r_aload_n c190_45 rfl ?_
    refine r_getR c190_46 (oK hK o440) (FX.get (b := 807) x6 (by decide) (by decide +kernel) (by decide)) (by decide) ?_
    refine r_aload_n c190_49 rfl ?_
    refine r_getIe c190_50 (oK hK o440) rfl ?_
    obtain ⟨s9, h⟩ := h
    refine r_aa c190_53 (mrw o807 hK) (bd l807 s9) (rf807 x6 s9) (by omega) ?_
    refine r_astore_n c190_54 (Nat.le_of_ble_eq_true rfl) ?_
    refine r_aload_n c190_55 rfl ?_
    refine r_dupr c190_56 ?_
    refine r_getIe c190_57 (oK hK o440) rfl ?_
    refine r_iconst c190_60 ?_
    refine r_iadd c190_61 ?_
    refine r_putI c190_62 (oK hK o440) ?_
    have x10 := FX.set (v := (w32 ((M8 440 30) + (1 : Int)))) (a := 440) (k := 30) x6 (by decide +kernel)
    refine r_aload_n c190_65 rfl ?_
    refine r_iconst c190_66 ?_
    refine r_iload_n c190_67 rfl ?_
    refine r_ias c190_68 (oK hK (ro807 s9)) (bd (rz807 s9) (by decide)) ?_
    have x11 := FX.set (v := l1) (a := (808 + Int.toNat (M8 440 30))) (k := 0) x10 (nfa (ro807 s9) _)
    refine r_iload_n c190_69 rfl ?_
    refine r_iconst c190_70 ?_
    refine r_icmpP (P := (4 : Int) ≤ l1) c190_71 rfl (fun hc12 => ?_) (fun hc12 => ?_)
    · replace h := h.1 hc12
      exact h
    · replace h := h.2 hc12
      refine r_aload_n c190_74 rfl ?_
      refine r_iconst c190_75 ?_
      refine r_aload_n c190_76 rfl ?_
      refine r_iconst c190_77 ?_
      refine r_aload_n c190_78 rfl ?_
      refine r_getR c190_79 (oK hK o440) (FX.get (b := 444) x11 (by decide) (by decide +kernel) (by decide)) (by decide) ?_
      refine r_iconst c190_82 ?_
      refine r_iae c190_83 (oK hK o444) (bd l444 (by decide)) (Eq.trans (ms_na (by omega)) (ms_na (by decide))) ?_
      refine r_iconst c190_84 ?_
      refine r_isub c190_85 ?_
      obtain ⟨B13, h⟩ := h
      obtain ⟨n14, h⟩ := h
      obtain ⟨st15, h⟩ := h
      obtain ⟨p16, h⟩ := h
      refine r_call c190_86 rfl rfl (Nat.le_of_ble_eq_true rfl) (okc_r rfl rfl (oK hK o440)) (g163 hK x11 p16 (fun M19 x17 p18 => Bk_v ?_))
      replace h := h M19 x17 p18
      refine r_ias c190_89 (oK hK (ro807 s9)) (bd (rz807 s9) (by decide)) ?_
      have x20 := FX.set (v := (okv (tNum B13 n14 (0 : Int) (w32 ((M8 444 1) - (1 : Int))) st15))) (a := (808 + Int.toNat (M8 440 30))) (k := 1) x17 (nfa (ro807 s9) _)
      exact h
  · replace h := h.2 hc1
    exact r_ret c190_40 h
theorem u190_90 {d : Nat} {l1 : Int} {l2 : Nat} {M : Mem} {K : KK} {Q : RR → Mem → KK → Prop} (hK : K.1 = 923) (hX : FX M) (kl2 : isO 923 l2 20 = true) (zl2 : ln l2 = 4) (h : (l1 = (0 : Int) → ∃ B2 : BY, ∃ n3 : Nat, ∃ st4 : ST, TM B2 n3 M st4 ∧ (∀ (M8 : Mem), FX M8 → (FrM M M8 ∧ TM B2 n3 M8 (tNum B2 n3 (0 : Int) (w32 ((M 444 0) - (1 : Int))) st4).2) → Wp (d + 5) 190 115 [vR 440, vI l1, vR l2] [] (mset M8 l2 2 (okv (tNum B2 n3 (0 : Int) (w32 ((M 444 0) - (1 : Int))) st4))) K Q)) ∧ (¬ (l1 = (0 : Int)) → (¬ l1 = (4 : Int) → Wp (d + 5) 190 115 [vR 440, vI l1, vR l2] [] M K Q) ∧ (l1 = (4 : Int) → ∃ B12 : BY, ∃ n13 : Nat, ∃ st14 : ST, TM B12 n13 M st14 ∧ (∀ (M18 : Mem), FX M18 → (FrM M M18 ∧ TM B12 n13 M18 (tNum B12 n13 (0 : Int) (w32 ((M 444 0) - (1 : Int))) st14).2) → Wp (d + 5) 190 115 [vR 440, vI l1, vR l2] [] (mset M18 l2 2 (okv (tNum B12 n13 (0 : Int) (w32 ((M 444 0) - (1 : Int))) st14))) K Q)))) : Wp (d + 5) 190 90 [vR 440, vI l1, vR l2] [] M K Q := by
  refine r_iload_n c190_90 rfl ?_
  refine r_ifP (P := l1 = (0 : Int)) c190_91 rfl (fun hc1 => ?_) (fun hc1 => ?_)
  · replace h := h.1 hc1
    refine r_aload_n c190_99 rfl ?_
    refine r_iconst c190_100 ?_
    refine r_aload_n c190_101 rfl ?_
    refine r_iconst c190_102 ?_
    refine r_aload_n c190_103 rfl ?_
    refine r_getR c190_104 (oK hK o440) (FX.get (b := 444) hX (by decide) (by decide +kernel) (by decide)) (by decide) ?_
    refine r_iconst c190_107 ?_
    refine r_iae c190_108 (oK hK o444) (bd l444 (by decide)) rfl ?_
    refine r_iconst c190_109 ?_
    refine r_isub c190_110 ?_
    obtain ⟨B2, h⟩ := h
    obtain ⟨n3, h⟩ := h
    obtain ⟨st4, h⟩ := h
    obtain ⟨p5, h⟩ := h
    refine r_call c190_111 rfl rfl (Nat.le_of_ble_eq_true rfl) (okc_r rfl rfl (oK hK o440)) (g163 hK hX p5 (fun M8 x6 p7 => Bk_v ?_))
    replace h := h M8 x6 p7
    refine r_ias c190_114 (oK hK kl2) (bd zl2 (by decide)) ?_
    have x9 := FX.set (v := (okv (tNum B2 n3 (0 : Int) (w32 ((M 444 0) - (1 : Int))) st4))) (a := l2) (k := 2) x6 (nfa kl2 _)
    exact h
  · replace h := h.2 hc1
    refine r_iload_n c190_94 rfl ?_
    refine r_iconst c190_95 ?_
    refine r_icmpP (P := ¬ l1 = (4 : Int)) c190_96 rfl (fun hc10 => ?_) (fun hc10 => ?_)
    · replace h := h.1 hc10
      exact h
    · have hc11 := Classical.not_not.mp hc10
      replace h := h.2 hc11
      refine r_aload_n c190_99 rfl ?_
      refine r_iconst c190_100 ?_
      refine r_aload_n c190_101 rfl ?_
      refine r_iconst c190_102 ?_
      refine r_aload_n c190_103 rfl ?_
      refine r_getR c190_104 (oK hK o440) (FX.get (b := 444) hX (by decide) (by decide +kernel) (by decide)) (by decide) ?_
      refine r_iconst c190_107 ?_
      refine r_iae c190_108 (oK hK o444) (bd l444 (by decide)) rfl ?_
      refine r_iconst c190_109 ?_
      refine r_isub c190_110 ?_
      obtain ⟨B12, h⟩ := h
      obtain ⟨n13, h⟩ := h
      obtain ⟨st14, h⟩ := h
      obtain ⟨p15, h⟩ := h
      refine r_call c190_111 rfl rfl (Nat.le_of_ble_eq_true rfl) (okc_r rfl rfl (oK hK o440)) (g163 hK hX p15 (fun M18 x16 p17 => Bk_v ?_))
      replace h := h M18 x16 p17
      refine r_ias c190_114 (oK hK kl2) (bd zl2 (by decide)) ?_
      have x19 := FX.set (v := (okv (tNum B12 n13 (0 : Int) (w32 ((M 444 0) - (1 : Int))) st14))) (a := l2) (k := 2) x16 (nfa kl2 _)
      exact h
theorem u190_115 {d : Nat} {l1 : Int} {l2 : Nat} {M : Mem} {K : KK} {Q : RR → Mem → KK → Prop} (hK : K.1 = 923) (hX : FX M) (kl2 : isO 923 l2 20 = true) (zl2 : ln l2 = 4) (h : (¬ l1 = (6 : Int) → ∃ B4 : BY, ∃ n5 : Nat, ∃ st6 : ST, (TM B4 n5 (mset M l2 3 (M 440 30)) st6 ∧ (59 : Int) ≠ -1) ∧ (∀ (M10 : Mem), FX M10 → (FrM (mset M l2 3 (M 440 30)) M10 ∧ TM B4 n5 M10 (tSign B4 n5 (59 : Int) st6)) → Q (.inl none) M10 K)) ∧ (l1 = (6 : Int) → ∃ B11 : BY, ∃ n12 : Nat, ∃ st13 : ST, TM B11 n12 M st13 ∧ (∀ (M17 : Mem), FX M17 → (FrM M M17 ∧ TM B11 n12 M17 (tNum B11 n12 (0 : Int) (30 : Int) st13).2) → ∃ B19 : BY, ∃ n20 : Nat, ∃ st21 : ST, (TM B19 n20 (mset M17 l2 1 (okv (tNum B11 n12 (0 : Int) (30 : Int) st13))) st21 ∧ (91 : Int) ≠ -1) ∧ (∀ (M25 : Mem), FX M25 → (FrM (mset M17 l2 1 (okv (tNum B11 n12 (0 : Int) (30 : Int) st13))) M25 ∧ TM B19 n20 M25 (tSign B19 n20 (91 : Int) st21)) → ∃ B26 : BY, ∃ n27 : Nat, ∃ st28 : ST, TM B26 n27 M25 st28 ∧ (∀ (M32 : Mem), FX M32 → (FrM M25 M32 ∧ TM B26 n27 M32 st28 ∧ AtM M32 st28) → Wp (d + 5) 190 141 [vR 440, vI l1, vR l2] [] M32 K Q))))) : Wp (d + 5) 190 115 [vR 440, vI l1, vR l2] [] M K Q := by
  refine r_iload_n c190_115 rfl ?_
  refine r_bipush c190_116 ?_
  refine r_icmpP (P := ¬ l1 = (6 : Int)) c190_118 rfl (fun hc1 => ?_) (fun hc1 => ?_)
  · replace h := h.1 hc1
    refine r_aload_n c190_188 rfl ?_
    refine r_iconst c190_189 ?_
    refine r_aload_n c190_190 rfl ?_
    refine r_getIe c190_191 (oK hK o440) rfl ?_
    refine r_ias c190_194 (oK hK kl2) (bd zl2 (by decide)) ?_
    have x3 := FX.set (v := (M 440 30)) (a := l2) (k := 3) hX (nfa kl2 _)
    refine r_aload_n c190_195 rfl ?_
    refine r_bipush c190_196 ?_
    obtain ⟨B4, h⟩ := h
    obtain ⟨n5, h⟩ := h
    obtain ⟨st6, h⟩ := h
    obtain ⟨p7, h⟩ := h
    refine r_call c190_198 rfl rfl (Nat.le_of_ble_eq_true rfl) (okc_r rfl rfl (oK hK o440)) (g169 hK x3 p7 (fun M10 x8 p9 => Bk_n ?_))
    replace h := h M10 x8 p9
    exact r_ret c190_201 h
  · have hc2 := Classical.not_not.mp hc1
    replace h := h.2 hc2
    refine r_aload_n c190_121 rfl ?_
    refine r_iconst c190_122 ?_
    refine r_aload_n c190_123 rfl ?_
    refine r_iconst c190_124 ?_
    refine r_bipush c190_125 ?_
    obtain ⟨B11, h⟩ := h
    obtain ⟨n12, h⟩ := h
    obtain ⟨st13, h⟩ := h
    obtain ⟨p14, h⟩ := h
    refine r_call c190_127 rfl rfl (Nat.le_of_ble_eq_true rfl) (okc_r rfl rfl (oK hK o440)) (g163 hK hX p14 (fun M17 x15 p16 => Bk_v ?_))
    replace h := h M17 x15 p16
    refine r_ias c190_130 (oK hK kl2) (bd zl2 (by decide)) ?_
    have x18 := FX.set (v := (okv (tNum B11 n12 (0 : Int) (30 : Int) st13))) (a := l2) (k := 1) x15 (nfa kl2 _)
    refine r_aload_n c190_131 rfl ?_
    refine r_bipush c190_132 ?_
    obtain ⟨B19, h⟩ := h
    obtain ⟨n20, h⟩ := h
    obtain ⟨st21, h⟩ := h
    obtain ⟨p22, h⟩ := h
    refine r_call c190_134 rfl rfl (Nat.le_of_ble_eq_true rfl) (okc_r rfl rfl (oK hK o440)) (g169 hK x18 p22 (fun M25 x23 p24 => Bk_n ?_))
    replace h := h M25 x23 p24
    refine r_aload_n c190_137 rfl ?_
    obtain ⟨B26, h⟩ := h
    obtain ⟨n27, h⟩ := h
    obtain ⟨st28, h⟩ := h
    obtain ⟨p29, h⟩ := h
    refine r_call c190_138 rfl rfl (Nat.le_of_ble_eq_true rfl) (okc_r rfl rfl (oK hK o440)) (g159 hK x23 p29 (fun M32 x30 p31 => Bk_n ?_))
    replace h := h M32 x30 p31
    exact h
theorem u190_141 {d : Nat} {l1 : Int} {l2 : Nat} {M : Mem} {K : KK} {Q : RR → Mem → KK → Prop} (hK : K.1 = 923) (hX : FX M) (kl2 : isO 923 l2 20 = true) (zl2 : ln l2 = 4) (h : (¬ (M 440 5) = (0 : Int) → Wp (d + 5) 190 172 [vR 440, vI l1, vR l2] [] M K Q) ∧ ((M 440 5) = (0 : Int) → ∃ B3 : BY, ∃ n4 : Nat, (SB B3 n4 M ∧ 0 ≤ (M 440 4)) ∧ ((bt B3 n4 (M 440 4)) = (93 : Int) → Wp (d + 5) 190 172 [vR 440, vI l1, vR l2] [] M K Q) ∧ (¬ ((bt B3 n4 (M 440 4)) = (93 : Int)) → Wm (d + 4) 190 [vR 440] M K (Bk (d + 4) 190 162 165 190 [vR 440, vI l1, vR l2] [] Q)))) : Wp (d + 5) 190 141 [vR 440, vI l1, vR l2] [] M K Q := by
  refine r_aload_n c190_141 rfl ?_
  refine r_getIe c190_142 (oK hK o440) rfl ?_
  refine r_ifP (P := ¬ (M 440 5) = (0 : Int)) c190_145 rfl (fun hc1 => ?_) (fun hc1 => ?_)
  · replace h := h.1 hc1
    exact h
  · have hc2 := Classical.not_not.mp hc1
    replace h := h.2 hc2
    refine r_aload_n c190_148 rfl ?_
    refine r_aload_n c190_149 rfl ?_
    refine r_getIe c190_150 (oK hK o440) rfl ?_
    obtain ⟨B3, h⟩ := h
    obtain ⟨n4, h⟩ := h
    obtain ⟨p5, h⟩ := h
    refine r_call c190_153 rfl rfl (Nat.le_of_ble_eq_true rfl) (okc_r rfl rfl (oK hK o440)) (g158 hK hX p5 (Bk_v ?_))
    refine r_bipush c190_156 ?_
    refine r_icmpP (P := (bt B3 n4 (M 440 4)) = (93 : Int)) c190_158 rfl (fun hc6 => ?_) (fun hc6 => ?_)
    · replace h := h.1 hc6
      exact h
    · replace h := h.2 hc6
      refine r_aload_n c190_161 rfl ?_
      exact r_call c190_162 rfl rfl (Nat.le_of_ble_eq_true rfl) (okc_r rfl rfl (oK hK o440)) h
theorem u190_165 {d : Nat} {l1 : Int} {l2 : Nat} {M : Mem} {K : KK} {Q : RR → Mem → KK → Prop} (hK : K.1 = 923) (hX : FX M) (kl2 : isO 923 l2 20 = true) (zl2 : ln l2 = 4) (h : ∃ B1 : BY, ∃ n2 : Nat, ∃ st3 : ST, TM B1 n2 M st3 ∧ (∀ (M7 : Mem), FX M7 → (FrM M M7 ∧ TM B1 n2 M7 st3 ∧ AtM M7 st3) → Wp (d + 5) 190 141 [vR 440, vI l1, vR l2] [] M7 K Q)) : Wp (d + 5) 190 165 [vR 440, vI l1, vR l2] [] M K Q := by
  refine r_aload_n c190_165 rfl ?_
  obtain ⟨B1, h⟩ := h
  obtain ⟨n2, h⟩ := h
  obtain ⟨st3, h⟩ := h
  obtain ⟨p4, h⟩ := h
  refine r_call c190_166 rfl rfl (Nat.le_of_ble_eq_true rfl) (okc_r rfl rfl (oK hK o440)) (g159 hK hX p4 (fun M7 x5 p6 => Bk_n ?_))
  replace h := h M7 x5 p6
  refine r_goto c190_169 ?_
  exact h
theorem u190_172 {d : Nat} {l1 : Int} {l2 : Nat} {M : Mem} {K : KK} {Q : RR → Mem → KK → Prop} (hK : K.1 = 923) (hX : FX M) (kl2 : isO 923 l2 20 = true) (zl2 : ln l2 = 4) (h : ∃ B1 : BY, ∃ n2 : Nat, ∃ st3 : ST, (TM B1 n2 M st3 ∧ (93 : Int) ≠ -1) ∧ (∀ (M7 : Mem), FX M7 → (FrM M M7 ∧ TM B1 n2 M7 (tSign B1 n2 (93 : Int) st3)) → ∃ B10 : BY, ∃ n11 : Nat, ∃ st12 : ST, (TM B10 n11 (mset (mset M7 440 8 (w32 ((M7 440 8) - (1 : Int)))) l2 3 (M7 440 30)) st12 ∧ (59 : Int) ≠ -1) ∧ (∀ (M16 : Mem), FX M16 → (FrM (mset (mset M7 440 8 (w32 ((M7 440 8) - (1 : Int)))) l2 3 (M7 440 30)) M16 ∧ TM B10 n11 M16 (tSign B10 n11 (59 : Int) st12)) → Q (.inl none) M16 K))) : Wp (d + 5) 190 172 [vR 440, vI l1, vR l2] [] M K Q := by
  refine r_aload_n c190_172 rfl ?_
  refine r_bipush c190_173 ?_
  obtain ⟨B1, h⟩ := h
  obtain ⟨n2, h⟩ := h
  obtain ⟨st3, h⟩ := h
  obtain ⟨p4, h⟩ := h
  refine r_call c190_175 rfl rfl (Nat.le_of_ble_eq_true rfl) (okc_r rfl rfl (oK hK o440)) (g169 hK hX p4 (fun M7 x5 p6 => Bk_n ?_))
  replace h := h M7 x5 p6
  refine r_aload_n c190_178 rfl ?_
  refine r_dupr c190_179 ?_
  refine r_getIe c190_180 (oK hK o440) rfl ?_
  refine r_iconst c190_183 ?_
  refine r_isub c190_184 ?_
  refine r_putI c190_185 (oK hK o440) ?_
  have x8 := FX.set (v := (w32 ((M7 440 8) - (1 : Int)))) (a := 440) (k := 8) x5 (by decide +kernel)
  refine r_aload_n c190_188 rfl ?_
  refine r_iconst c190_189 ?_
  refine r_aload_n c190_190 rfl ?_
  refine r_getIe c190_191 (oK hK o440) (ms_nk (by decide)) ?_
  refine r_ias c190_194 (oK hK kl2) (bd zl2 (by decide)) ?_
  have x9 := FX.set (v := (M7 440 30)) (a := l2) (k := 3) x8 (nfa kl2 _)
  refine r_aload_n c190_195 rfl ?_
  refine r_bipush c190_196 ?_
  obtain ⟨B10, h⟩ := h
  obtain ⟨n11, h⟩ := h
  obtain ⟨st12, h⟩ := h
  obtain ⟨p13, h⟩ := h
  refine r_call c190_198 rfl rfl (Nat.le_of_ble_eq_true rfl) (okc_r rfl rfl (oK hK o440)) (g169 hK x9 p13 (fun M16 x14 p15 => Bk_n ?_))
  replace h := h M16 x14 p15
  exact r_ret c190_201 h
def RWm (M F : Mem) (i : Nat) : Prop := M (808 + i) 0 = F i 0 ∧ ((F i 0 < 4 ∨ F i 0 = 6) → M (808 + i) 1 = F i 1) ∧ (F i 0 = 0 → M (808 + i) 2 = F i 2) ∧ (F i 0 = 4 → M (808 + i) 2 = F i 1) ∧ M (808 + i) 3 = F i 3
def FrQ (s : Nat) (M M' : Mem) : Prop := ∀ a k, ¬ (808 + s ≤ a ∧ a < 888) → ¬ (a = 440 ∧ (k = 30 ∨ k = 8 ∨ (4 ≤ k ∧ k ≤ 6))) → M' a k = M a k
theorem FrQ.rf {s : Nat} {M : Mem} : FrQ s M M := fun _ _ _ _ => rfl
theorem FrQ.tr {s : Nat} {M M1 M2 : Mem} (h1 : FrQ s M M1) (h2 : FrQ s M1 M2) : FrQ s M M2 := fun a k p q => (h2 a k p q).trans (h1 a k p q)
theorem FrQ.mo {s s' : Nat} {M M' : Mem} (h : FrQ s' M M') (hs : s ≤ s') : FrQ s M M' := fun a k p q => h a k (fun r => p ⟨by omega, r.2⟩) q
theorem FrM.Q {s : Nat} {M M' : Mem} (h : FrM M M') : FrQ s M M' := fun a k _ q => h a k (fun r => q ⟨r.1, by omega⟩)
theorem FrO.Q {s : Nat} {M M' : Mem} (h : FrO M M') : FrQ s M M' := fun a k _ q => h a k (fun r => q ⟨r.1, by omega⟩)
theorem RWm.fr {M M' F F' : Mem} {i s : Nat} (h : RWm M F i) (hf : FrQ s M M') (hi : i < s) (hF : ∀ j, F' i j = F i j) : RWm M' F' i := by
  have e : ∀ j, M' (808 + i) j = M (808 + i) j := fun j => hf _ j (by omega) (by omega)
  unfold RWm at h ⊢
  rw [e 0, e 1, e 2, e 3, hF 0, hF 1, hF 2, hF 3]; exact h
/-- earlier steps stay -/
def EXP (F : XP → XP) : Prop := ∀ x i j, i < x.2.1 → (F x).2.2 i j = x.2.2 i j
section QA
variable {B : BY} {n : Nat} {nC nS : Int}
theorem addP_ex {P : PG} {k a b : Int} {i j : Nat} (h : i < P.1) : (addP P k a b).2 i j = P.2 i j := by
  simp only [addP, mset]; rw [if_neg (by omega), if_neg (by omega), if_neg (by omega), if_neg (by omega)]
theorem EXP_st {O : Option (XP → XP)} (hO : ∀ S, O = some S → EXP S) : EXP (stF B n nC nS O) := by
  rintro ⟨st, P⟩ i j hi
  dsimp only at hi
  cases st with
  | inr f => rfl
  | inl p =>
    simp only [stF]
    split
    · rfl
    · split
      · cases O with
        | none => rfl
        | some S =>
          simp only [Option.elim, agF, mset]
          rw [if_neg (by omega), hO S rfl _ i j (by simp only [addP]; omega)]
          exact addP_ex hi
      · exact addP_ex hi
theorem EXP_ss {top : Bool} {F : XP → XP} (hF : EXP F) (hm : ∀ x, x.2.1 ≤ (F x).2.1) : ∀ f, EXP (ssL B n top F f) := by
  intro f
  induction f with
  | zero => intro x i j _; rfl
  | succ f ih =>
    intro x i j hi
    simp only [ssL]
    split
    · rfl
    · have := hm x
      rw [ih _ i j (by dsimp only; omega)]
      exact hF x i j hi
theorem mono_st {O : Option (XP → XP)} (hO : ∀ S, O = some S → ∀ x, x.2.1 ≤ (S x).2.1) : ∀ x, x.2.1 ≤ (stF B n nC nS O x).2.1 := by
  rintro ⟨st, P⟩
  cases st with
  | inr f => exact Nat.le_refl _
  | inl p =>
    simp only [stF]
    split
    · exact Nat.le_refl _
    · split
      · cases O with
        | none => exact Nat.le_refl _
        | some S =>
          have := hO S rfl (tSign B n 91 (tNum B n 0 30 (tWord B n (.inl p))).2, addP P 6 (tNum B n 0 30 (tWord B n (.inl p))).1 0)
          simp only [addP] at this
          simp only [Option.elim, agF, addP]
          omega
      · simp only [addP]; omega
theorem mono_ss {top : Bool} {F : XP → XP} (hm : ∀ x, x.2.1 ≤ (F x).2.1) : ∀ f x, x.2.1 ≤ (ssL B n top F f x).2.1 := by
  intro f
  induction f with
  | zero => intro x; exact Nat.le_refl _
  | succ f ih =>
    intro x
    simp only [ssL]
    split
    · exact Nat.le_refl _
    · exact Nat.le_trans (hm x) (ih (tSign B n 59 (F x).1, (F x).2))
theorem pSt_ex : ∀ r, EXP (pSt B n nC nS r) ∧ ∀ x, x.2.1 ≤ (pSt B n nC nS r x).2.1 := by
  intro r
  induction r with
  | zero => exact ⟨EXP_ss (EXP_st (fun S h => by cases h)) (mono_st (fun S h => by cases h)) 150, mono_ss (mono_st (fun S h => by cases h)) 150⟩
  | succ r ih => exact ⟨EXP_ss (EXP_st (fun S h => by cases h; exact ih.1)) (mono_st (fun S h => by cases h; exact ih.2)) 150, mono_ss (mono_st (fun S h => by cases h; exact ih.2)) 150⟩
/-- the model's step and the sign behind it -/
def CtQ (B : BY) (n D : Nat) (nC nS op : Int) (F : XP → XP) : Prop := ∀ (d : Nat) (M : Mem) (K : KK) (Q : RR → Mem → KK → Prop) (p : Nat) (P : PG), D ≤ d → K.1 = 923 → FX M → M 444 0 = nC → M 444 1 = nS → TM B n M (.inl p) → M 440 30 = (P.1 : Int) → 3 * P.1 ≤ p → M 440 8 = op → (∀ M', FX M' → FrQ P.1 M M' → TM B n M' (tSign B n 59 (F (.inl p, P)).1) → ((∃ q, (F (.inl p, P)).1 = .inl q) → M' 440 30 = ((F (.inl p, P)).2.1 : Int) ∧ (∀ i, P.1 ≤ i → i < (F (.inl p, P)).2.1 → RWm M' (F (.inl p, P)).2.2 i) ∧ M' 440 8 = op) → Q (.inl none) M' K) → Wm d 190 [vR 440] M K Q
theorem TM.q {M : Mem} {st : ST} {a k : Nat} {v : Int} (h : TM B n M st) (ha : (a ≠ 440 ∧ a ≠ 441) ∨ (a = 440 ∧ (k = 8 ∨ 7 ≤ k))) : TM B n (mset M a k v) st := by
  obtain ⟨⟨a1, a2, a3⟩, a', h4, h5, h6⟩ := h
  have e : ∀ k', k' = 2 ∨ (4 ≤ k' ∧ k' ≤ 6) → mset M a k v 440 k' = M 440 k' := fun k' hk => by simp only [mset]; rw [if_neg (by omega)]
  have e4 : ∀ k', mset M a k v 441 k' = M 441 k' := fun k' => by simp only [mset]; rw [if_neg (by omega)]
  refine ⟨⟨(e 2 (by omega)).trans a1, a2, fun i hi => (e4 i).trans (a3 i hi)⟩, a', (e 4 (by omega)).trans h4, h5, ?_⟩
  cases st with
  | inl p => exact ⟨(e 5 (by omega)).trans h6.1, h6.2⟩
  | inr f => exact ⟨(e 5 (by omega)).trans h6.1, (e 6 (by omega)).trans h6.2.1, h6.2.2⟩
theorem FrQ.up {s : Nat} {M M1 : Mem} {a k : Nat} {v : Int} (h : FrQ s M M1) (ha : (808 + s ≤ a ∧ a < 888) ∨ (a = 440 ∧ (k = 30 ∨ k = 8 ∨ (4 ≤ k ∧ k ≤ 6)))) : FrQ s M (mset M1 a k v) := by
  intro b j p q
  unfold mset
  rw [if_neg (by rintro ⟨rfl, rfl⟩; rcases ha with ha | ha; exact p ha; exact q ha)]
  exact h b j p q
theorem stN0 {st : ST} : stN B n nC nS 0 st = ((tNum B n 0 (nS - 1) st).1, (tNum B n 0 (nC - 1) (tNum B n 0 (nS - 1) st).2).1, (tNum B n 0 (nC - 1) (tNum B n 0 (nS - 1) st).2).2) := rfl
theorem stN4 {st : ST} : stN B n nC nS 4 st = ((tNum B n 0 (nC - 1) st).1, 0, (tNum B n 0 (nC - 1) st).2) := rfl
theorem stN5 {st : ST} : stN B n nC nS 5 st = (0, 0, st) := rfl
theorem stNm {k : Int} {st : ST} (h : 1 ≤ k ∧ k ≤ 3) : stN B n nC nS k st = ((tNum B n 0 (nS - 1) st).1, 0, (tNum B n 0 (nS - 1) st).2) := by
  simp only [stN]; rw [if_neg (by omega), if_neg (by omega), if_neg (by omega)]
theorem mstep_ok {O : Option (XP → XP)} {D : Nat} {op : Int} (hn : n ≤ 150) (hB : ∀ i, i < n → 0 ≤ B i) (hop : 0 ≤ op ∧ op ≤ 6) (hC : 0 ≤ nC ∧ nC ≤ 12) (hS : 0 ≤ nS ∧ nS ≤ 6) (hO : ∀ S, O = some S → op < 6 ∧ ∃ F, S = ssL B n false F 150 ∧ CtQ B n D nC nS (op + 1) F ∧ GS B n F ∧ FLP F ∧ EXP F ∧ (∀ x, x.2.1 ≤ (F x).2.1) ∧ (∀ P, (F (.inl n, P)) = (.inr (1, (n : Int)), P))) (hN : O = none → op = 6) : CtQ B n (D + 5) nC nS op (stF B n nC nS O) := by
  intro d M K Q p P hd hK hX h0 h1 ht h30 hpp h8 kk
  obtain ⟨d, rfl⟩ : ∃ d', d = d' + 5 := ⟨d - 5, by omega⟩
  have hpn := ht.w.1
  have hrg := stW_rg (B := B) (n := n) (st := .inl p)
  -- a fault at the word
  have bad : ∀ (f : Int × Int) (M2 : Mem) (k : Int), FX M2 → FrQ P.1 M M2 → TM B n M2 (.inr f) → stF B n nC nS O (.inl p, P) = (.inr f, P) → Wp (d + 5) 190 33 [vR 440, vI k, vU] [] M2 K Q := by
    intro f M2 k x2 f2 t2 hu
    rw [hu] at kk
    refine u190_33 hK x2 ⟨fun h => ?_, fun _ => kk M2 x2 f2 t2 (fun ⟨q, hq⟩ => by cases hq)⟩
    obtain ⟨q, hq⟩ := (TM_0 t2).mp h
    cases hq
  have hro := ro807_all P.1 (by omega)
  have hk4 : isO 923 (808 + P.1) 20 = true := hro.1
  have hz4 : ln (808 + P.1) = 4 := hro.2.1
  -- the step's row is there: its word taken
  have row : ∀ (k : Int), (0 ≤ k ∧ k ≤ 6) → ∀ (M2 : Mem), FX M2 → FrQ P.1 M M2 → TM B n M2 (.inl p) → AtM M2 (.inl p) → M2 440 30 = (P.1 : Int) →
      (∀ (M3 : Mem), FX M3 → FrQ P.1 M2 M3 → TM B n M3 (tWord B n (.inl p)) → M3 440 30 = ((P.1 + 1 : Nat) : Int) → M3 (808 + P.1) 0 = k → M3 440 8 = M2 440 8 → (4 ≤ k → Wp (d + 5) 190 90 [vR 440, vI k, vR (808 + P.1)] [] M3 K Q) ∧ (¬ 4 ≤ k → ∀ M4, FX M4 → FrM M3 M4 → TM B n M4 (tNum B n 0 (nS - 1) (tWord B n (.inl p))).2 → Wp (d + 5) 190 90 [vR 440, vI k, vR (808 + P.1)] [] (mset M4 (808 + P.1) 1 (okv (tNum B n 0 (nS - 1) (tWord B n (.inl p))))) K Q)) → Wp (d + 5) 190 33 [vR 440, vI k, vU] [] M2 K Q := by
    intro k hk M2 x2 f2 t2 a2 e2 kr
    refine u190_33 hK x2 ⟨fun _ => ⟨B, n, _, ⟨t2, a2⟩, fun M3 x3 p3 => ?_⟩, fun h => absurd ((TM_0 t2).mpr ⟨p, rfl⟩) h⟩
    have e3 : M3 440 30 = (P.1 : Int) := (p3.1 440 30 (by decide)).trans e2
    have es : M3 444 1 = nS := (p3.1 444 1 (by decide)).trans ((f2 444 1 (by omega) (by decide)).trans h1)
    rw [e3, es, Int.toNat_natCast, w1 (by omega), w32_id (z := nS - 1) (by omega)]
    have xx : FX (mset (mset M3 440 30 ((P.1 + 1 : Nat) : Int)) (808 + P.1) 0 k) := (x3.set (by decide +kernel)).set (nfa hk4 _)
    obtain ⟨ka, kb⟩ := kr _ xx (((p3.1.Q).up (Or.inr (by decide))).up (Or.inl (by omega))) ((p3.2.q (Or.inr (by decide))).q (Or.inl (by omega))) ((ms_na (by omega)).trans ms_eq) ms_eq ((ms_na (by omega)).trans ((ms_nk (by decide)).trans (p3.1 440 8 (by decide))))
    exact ⟨by omega, fun h => ka h, fun h => ⟨B, n, _, (p3.2.q (Or.inr (by decide))).q (Or.inl (by omega)), fun M4 x4 p4 => kb h M4 x4 p4.1 p4.2⟩⟩
  -- the end of a step that is no again
  have end5 : ∀ (k : Int), (0 ≤ k ∧ k ≤ 5) → ∀ (a b : Int) (st2 : ST) (M2 : Mem), stF B n nC nS O (.inl p, P) = (st2, addP P k a b) → FX M2 → FrQ P.1 M M2 → TM B n M2 st2 → M2 440 30 = ((P.1 + 1 : Nat) : Int) → M2 440 8 = op → ((∃ q, st2 = .inl q) → M2 (808 + P.1) 0 = k ∧ (k < 4 → M2 (808 + P.1) 1 = a) ∧ (k = 0 → M2 (808 + P.1) 2 = b) ∧ (k = 4 → M2 (808 + P.1) 2 = a)) → Wp (d + 5) 190 115 [vR 440, vI k, vR (808 + P.1)] [] M2 K Q := by
    intro k hk a b st2 M2 hu x2 f2 t2 e30 e8 hrow
    rw [hu] at kk
    refine u190_115 hK x2 hk4 hz4 ⟨fun _ => ?_, fun h => by omega⟩
    rw [e30]
    refine ⟨B, n, _, ⟨t2.q (Or.inl (by omega)), by decide⟩, fun M3 x3 p3 => kk M3 x3 ((f2.up (Or.inl (by omega))).tr p3.1.Q) p3.2 (fun hq => ?_)⟩
    obtain ⟨r0, r1, r2, r4⟩ := hrow hq
    have eM : ∀ j, M3 (808 + P.1) j = mset M2 (808 + P.1) 3 ((P.1 + 1 : Nat) : Int) (808 + P.1) j := fun j => p3.1 _ j (by omega)
    refine ⟨(p3.1 440 30 (by decide)).trans ((ms_na (by omega)).trans e30), fun i hi1 hi2 => ?_, (p3.1 440 8 (by decide)).trans ((ms_na (by omega)).trans e8)⟩
    have hi3 : i = P.1 := by simp only [addP] at hi2; omega
    subst hi3
    unfold RWm
    rw [eM 0, eM 1, eM 2, eM 3, ms_nk (by decide), ms_nk (by decide), ms_nk (by decide), ms_eq, r0]
    simp only [addP, mset]
    refine ⟨by simp, fun h => ?_, fun h => ?_, fun h => ?_, by simp⟩
    · simp at h ⊢; exact r1 (by omega)
    · simp at h ⊢; exact r2 h
    · simp at h ⊢; exact r4 h
  refine u190_0 hK hX ⟨B, n, _, ht, fun M1 x1 p1 => ?_⟩
  have hat : M1 440 4 = (p : Int) := p1.2.2
  have e301 : M1 440 30 = (P.1 : Int) := (p1.1 440 30 (by decide)).trans h30
  have e81 : M1 440 8 = op := (p1.1 440 8 (by decide)).trans h8
  rw [hat]
  refine ⟨fun hne => ⟨fun hn6 => ?_, fun h6 => ⟨B, n, _, op, ⟨p1.2.1, p1.2.2, fun _ _ => ⟨e81, hop⟩⟩, fun M2 x2 p2 => ⟨fun hop6 => ?_, fun hop6 => ?_⟩⟩⟩, fun heq => ⟨B, n, _, ⟨p1.2.1, by decide⟩, fun M2 x2 p2 => ⟨fun hn6 => bad (1, (p : Int)) M2 _ x2 (p1.1.Q.tr p2.1.Q) p2.2.1 ?_, fun h6 => by omega⟩⟩⟩
  · -- a step of its own
    obtain ⟨r0, r5, q, a, hq, hwa, ha⟩ : 0 ≤ stW B n (.inl p) ∧ stW B n (.inl p) ≤ 6 ∧ ∃ q a, (Sum.inl p : ST) = .inl q ∧ wdL B q (sp isS B n q) = wL a ∧ 18 ≤ a ∧ a ≤ 24 := by
      rcases hrg with h | h
      · exact absurd h hne
      · exact h
    cases hq
    have hu : stF B n nC nS O (.inl p, P) = ((stN B n nC nS (stW B n (.inl p)) (tWord B n (.inl p))).2.2, addP P (stW B n (.inl p)) (stN B n nC nS (stW B n (.inl p)) (tWord B n (.inl p))).1 (stN B n nC nS (stW B n (.inl p)) (tWord B n (.inl p))).2.1) := by
      simp only [stF]; rw [if_neg hne, if_neg hn6]
    generalize stW B n (.inl p) = k at hne hn6 r0 r5 hu
    refine row k ⟨r0, by omega⟩ M1 x1 p1.1.Q p1.2.1 p1.2.2 e301 (fun M3 x3 f3 t3 e30 er e8 => ⟨fun h4 => ?_, fun h4 M4 x4 f4 t4 => ?_⟩)
    · have f03 := p1.1.Q.tr f3
      have ec : M3 444 0 = nC := (f03 444 0 (by omega) (by decide)).trans h0
      refine u190_90 hK x3 hk4 hz4 ⟨fun h => by omega, fun _ => ⟨fun hn4 => ?_, fun he4 => ⟨B, n, _, t3, fun M4 x4 p4 => ?_⟩⟩⟩
      · have : k = 5 := by omega
        subst this
        rw [stN5] at hu
        exact end5 5 (by decide) _ _ _ M3 hu x3 f03 t3 e30 (e8.trans e81) (fun _ => ⟨er, (fun h => by omega), (fun h => by omega), (fun h => by omega)⟩)
      · subst he4
        rw [stN4] at hu
        rw [ec, w32_id (by omega)] at p4 ⊢
        refine end5 4 (by decide) _ _ _ _ hu (x4.set (nfa hk4 _)) ((f03.tr p4.1.Q).up (Or.inl (by omega))) (p4.2.q (Or.inl (by omega))) ((ms_na (by omega)).trans ((p4.1 440 30 (by decide)).trans e30)) ((ms_na (by omega)).trans ((p4.1 440 8 (by decide)).trans (e8.trans e81))) (fun hq => ⟨(ms_nk (by decide)).trans ((p4.1 _ 0 (by omega)).trans er), (fun h => by omega), (fun h => by omega), fun _ => ?_⟩)
        obtain ⟨q, hq⟩ := hq
        have hq : (tNum B n 0 (nC - 1) (tWord B n (.inl p))).2 = .inl q := hq
        rw [ms_eq]; exact okv_ok hq
    · have f04 := (p1.1.Q.tr f3).tr f4.Q
      have xx := x4.set (v := okv (tNum B n 0 (nS - 1) (tWord B n (.inl p)))) (nfa hk4 1)
      have ec : mset M4 (808 + P.1) 1 (okv (tNum B n 0 (nS - 1) (tWord B n (.inl p)))) 444 0 = nC := (ms_na (by omega)).trans ((f04 444 0 (by omega) (by decide)).trans h0)
      have e304 : M4 440 30 = ((P.1 + 1 : Nat) : Int) := (f4 440 30 (by decide)).trans e30
      have e84 : M4 440 8 = op := (f4 440 8 (by decide)).trans (e8.trans e81)
      have er4 : M4 (808 + P.1) 0 = k := (f4 _ 0 (by omega)).trans er
      refine u190_90 hK xx hk4 hz4 ⟨fun hz => ⟨B, n, _, t4.q (Or.inl (by omega)), fun M5 x5 p5 => ?_⟩, fun hnz => ⟨fun hn4 => ?_, fun h => by omega⟩⟩
      · subst hz
        rw [stN0] at hu
        rw [ec, w32_id (by omega)] at p5 ⊢
        refine end5 0 (by decide) _ _ _ _ hu (x5.set (nfa hk4 _)) (((f04.up (Or.inl (by omega))).tr p5.1.Q).up (Or.inl (by omega))) (p5.2.q (Or.inl (by omega))) ((ms_na (by omega)).trans ((p5.1 440 30 (by decide)).trans ((ms_na (by omega)).trans e304))) ((ms_na (by omega)).trans ((p5.1 440 8 (by decide)).trans ((ms_na (by omega)).trans e84))) (fun hq => ?_)
        obtain ⟨q, hq⟩ := hq
        have hq : (tNum B n 0 (nC - 1) (tNum B n 0 (nS - 1) (tWord B n (.inl p))).2).2 = .inl q := hq
        obtain ⟨q1, hq1⟩ := tNum_ok hq
        refine ⟨(ms_nk (by decide)).trans ((p5.1 _ 0 (by omega)).trans ((ms_nk (by decide)).trans er4)), fun _ => ?_, fun _ => ?_, (fun h => by omega)⟩
        · rw [ms_nk (by decide), p5.1 _ 1 (by omega), ms_eq]; exact okv_ok hq1
        · rw [ms_eq]; exact okv_ok hq
      · have hk13 : 1 ≤ k ∧ k ≤ 3 := by omega
        rw [stNm hk13] at hu
        refine end5 k (by omega) _ _ _ _ hu xx (f04.up (Or.inl (by omega))) (t4.q (Or.inl (by omega))) ((ms_na (by omega)).trans e304) ((ms_na (by omega)).trans e84) (fun hq => ⟨(ms_nk (by decide)).trans er4, fun _ => ?_, (fun h => by omega), (fun h => by omega)⟩)
        obtain ⟨q, hq⟩ := hq
        have hq : (tNum B n 0 (nS - 1) (tWord B n (.inl p))).2 = .inl q := hq
        rw [ms_eq]; exact okv_ok hq
  · -- again
    obtain ⟨r0, r5, q, a, hq, hwa, ha⟩ : 0 ≤ stW B n (.inl p) ∧ stW B n (.inl p) ≤ 6 ∧ ∃ q a, (Sum.inl p : ST) = .inl q ∧ wdL B q (sp isS B n q) = wL a ∧ 18 ≤ a ∧ a ≤ 24 := by
      rcases hrg with h | h
      · exact absurd h hne
      · exact h
    cases hq
    cases O with
    | none => exact absurd (hN rfl) hop6.2
    | some S =>
      obtain ⟨o1, F, rfl, o2, o3, o4, o5, o6, o7⟩ := hO S rfl
      have hu : stF B n nC nS (some (ssL B n false F 150)) (.inl p, P) = agF B n (ssL B n false F 150) (tWord B n (.inl p)) P := by
        simp only [stF]; rw [if_neg hne, if_pos h6]; rfl
      rw [hu] at kk
      rw [h6]
      have t2 : TM B n M2 (.inl p) := by have := p2.2.1; simp only [tOpen] at this; rw [if_neg hop6.2] at this; exact this
      have a2 := p2.2.2.2 hop6
      have e302 : M2 440 30 = (P.1 : Int) := (p2.1 440 30 (by decide)).trans e301
      refine row 6 (by decide) M2 x2 (p1.1.Q.tr p2.1.Q) t2 a2.2 e302 (fun M3 x3 f3 t3 e30 er e8 => ⟨fun _ => ?_, fun h => absurd (by decide) h⟩)
      have f03 := (p1.1.Q.tr p2.1.Q).tr f3
      refine u190_90 hK x3 hk4 hz4 ⟨fun h => absurd h (by decide), fun _ => ⟨fun _ => ?_, fun h => absurd h (by decide)⟩⟩
      refine u190_115 hK x3 hk4 hz4 ⟨fun h => absurd rfl h, fun _ => ⟨B, n, _, t3, fun M4 x4 p4 => ⟨B, n, _, ⟨p4.2.q (Or.inl (by omega)), by decide⟩, fun M5 x5 p5 => ⟨B, n, _, p5.2, fun M6 x6 p6 => ?_⟩⟩⟩⟩
      -- the loop over the steps in brackets
      have f06 : FrQ P.1 M M6 := (((f03.tr p4.1.Q).up (Or.inl (by omega))).tr p5.1.Q).tr p6.1.Q
      have e306 : M6 440 30 = ((P.1 + 1 : Nat) : Int) := (p6.1 440 30 (by decide)).trans ((p5.1 440 30 (by decide)).trans ((ms_na (by omega)).trans ((p4.1 440 30 (by decide)).trans e30)))
      have e86 : M6 440 8 = op + 1 := (p6.1 440 8 (by decide)).trans ((p5.1 440 8 (by decide)).trans ((ms_na (by omega)).trans ((p4.1 440 8 (by decide)).trans (e8.trans a2.1))))
      have er0 : M6 (808 + P.1) 0 = 6 := (p6.1 _ 0 (by omega)).trans ((p5.1 _ 0 (by omega)).trans ((ms_nk (by decide)).trans ((p4.1 _ 0 (by omega)).trans er)))
      have er1 : M6 (808 + P.1) 1 = okv (tNum B n 0 30 (tWord B n (.inl p))) := (p6.1 _ 1 (by omega)).trans ((p5.1 _ 1 (by omega)).trans ms_eq)
      have loop : ∀ (f : Nat) (x : XP) (M7 : Mem), (∀ q, x.1 = .inl q → n ≤ q + f) → FX M7 → FrQ (P.1 + 1) M6 M7 → TM B n M7 x.1 → AtM M7 x.1 → G3 x → ((∃ q, x.1 = .inl q) → P.1 + 1 ≤ x.2.1 ∧ M7 440 30 = (x.2.1 : Int) ∧ (∀ i, P.1 + 1 ≤ i → i < x.2.1 → RWm M7 x.2.2 i) ∧ M7 440 8 = op + 1) →
          (∀ (M8 : Mem) (st8 : ST), FX M8 → FrQ (P.1 + 1) M6 M8 → TM B n M8 st8 → tSign B n 93 st8 = tSign B n 93 (ssL B n false F f x).1 → ((∃ q, tSign B n 93 (ssL B n false F f x).1 = .inl q) → M8 440 30 = ((ssL B n false F f x).2.1 : Int) ∧ (∀ i, P.1 + 1 ≤ i → i < (ssL B n false F f x).2.1 → RWm M8 (ssL B n false F f x).2.2 i) ∧ M8 440 8 = op + 1) → Wp (d + 5) 190 172 [vR 440, vI 6, vR (808 + P.1)] [] M8 K Q) →
          Wp (d + 5) 190 141 [vR 440, vI 6, vR (808 + P.1)] [] M7 K Q := by
        intro f
        induction f with
        | zero =>
          rintro ⟨st, P7⟩ M7 hi x7 f7 t7 a7 g7 hok k7
          dsimp only at hi t7 a7
          have stop : Wp (d + 5) 190 172 [vR 440, vI 6, vR (808 + P.1)] [] M7 K Q := k7 M7 st x7 f7 t7 rfl (fun hq => by
            obtain ⟨q, hq⟩ := hq
            obtain ⟨q1, hq1⟩ := sign_ok hq
            exact (hok ⟨q1, hq1⟩).2)
          refine u190_141 hK x7 hk4 hz4 ⟨fun _ => stop, fun h0' => ⟨B, n, ⟨t7.1, by obtain ⟨-, a, ha, -⟩ := t7; omega⟩, fun _ => stop, fun hno => ?_⟩⟩
          obtain ⟨q, rfl⟩ := (TM_0 t7).mp h0'
          have hqn : q = n := by have := hi q rfl; have := t7.w.1; omega
          subst hqn
          obtain ⟨k1, k2, k3, k4⟩ := hok ⟨q, rfl⟩
          have e0 := (f06.tr (f7.mo (by omega))) 444 0 (by omega) (by decide)
          have e1 := (f06.tr (f7.mo (by omega))) 444 1 (by omega) (by decide)
          refine o2 (d + 4) M7 K _ q P7 (by omega) hK x7 (e0.trans h0) (e1.trans h1) t7 k2 (g7.1 q rfl) k4 (fun M8 x8 f8 t8 _ => Bk_n ?_)
          rw [o7] at t8
          refine u190_165 hK x8 hk4 hz4 ⟨B, q, _, t8, fun M9 x9 p9 => ?_⟩
          refine u190_141 hK x9 hk4 hz4 ⟨fun _ => ?_, fun h => ?_⟩
          · refine k7 M9 (.inr (1, (q : Int))) x9 ((f7.tr (f8.mo k1)).tr p9.1.Q) p9.2.1 ?_ (fun hq => ?_)
            · simp only [ssL, tSign]; rw [if_neg (by omega)]
            · simp only [ssL, tSign] at hq; rw [if_neg (by omega)] at hq; obtain ⟨_, hq⟩ := hq; cases hq
          · obtain ⟨q', hq'⟩ := (TM_0 p9.2.1).mp h; cases hq'
        | succ f ih =>
          rintro ⟨st, P7⟩ M7 hi x7 f7 t7 a7 g7 hok k7
          dsimp only at hi t7 a7
          simp only [ssL] at k7
          cases st with
          | inr g =>
            rw [if_pos (show pk B n (Sum.inr g) = -1 ∨ _ from Or.inl rfl)] at k7
            refine u190_141 hK x7 hk4 hz4 ⟨fun _ => k7 M7 _ x7 f7 t7 rfl (fun ⟨q, hq⟩ => by cases hq), fun h => ?_⟩
            obtain ⟨q', hq'⟩ := (TM_0 t7).mp h; cases hq'
          | inl q =>
            have hq7 : M7 440 4 = (q : Int) := a7
            have hqn := t7.w.1
            obtain ⟨k1, k2, k3, k4⟩ := hok ⟨q, rfl⟩
            refine u190_141 hK x7 hk4 hz4 ⟨fun h => absurd ((TM_0 t7).mpr ⟨q, rfl⟩) h, fun _ => ⟨B, n, ⟨t7.1, by omega⟩, fun h93 => ?_, fun h93 => ?_⟩⟩
            · rw [hq7, pk_bt] at h93
              rw [if_pos (Or.inr ⟨trivial, h93⟩)] at k7
              exact k7 M7 _ x7 f7 t7 rfl (fun _ => ⟨k2, k3, k4⟩)
            · rw [hq7, pk_bt] at h93
              have e0 := (f06.tr (f7.mo (by omega))) 444 0 (by omega) (by decide)
              have e1 := (f06.tr (f7.mo (by omega))) 444 1 (by omega) (by decide)
              refine o2 (d + 4) M7 K _ q P7 (by omega) hK x7 (e0.trans h0) (e1.trans h1) t7 k2 (g7.1 q rfl) k4 (fun M8 x8 f8 t8 hr8 => Bk_n ?_)
              refine u190_165 hK x8 hk4 hz4 ⟨B, n, _, t8, fun M9 x9 p9 => ?_⟩
              by_cases hend : pk B n (.inl q) = -1
              · rw [if_pos (Or.inl hend)] at k7
                have hqq : ¬ q < n := by
                  intro h
                  simp only [pk] at hend
                  rw [if_pos h] at hend
                  have := hB q h; omega
                have hqn2 : q = n := by omega
                subst hqn2
                rw [o7] at p9
                refine u190_141 hK x9 hk4 hz4 ⟨fun _ => ?_, fun h => ?_⟩
                · refine k7 M9 (.inr (1, (q : Int))) x9 ((f7.tr (f8.mo k1)).tr p9.1.Q) p9.2.1 ?_ (fun hq => ?_)
                  · simp only [tSign]; rw [if_neg (by omega)]
                  · simp only [tSign] at hq; rw [if_neg (by omega)] at hq; obtain ⟨_, hq⟩ := hq; cases hq
                · obtain ⟨q', hq'⟩ := (TM_0 p9.2.1).mp h; cases hq'
              · rw [if_neg (by rintro (h | h); exact hend h; exact h93 h.2)] at k7
                obtain ⟨s1, s2, s3, s4⟩ := o3 (.inl q, P7) t7.w g7
                refine ih (tSign B n 59 (F (.inl q, P7)).1, (F (.inl q, P7)).2) M9 (fun r hr => ?_) x9 ((f7.tr (f8.mo k1)).tr p9.1.Q) p9.2.1 p9.2.2 ⟨fun r hr => ?_, s2.2⟩ (fun hq => ?_) k7
                · obtain ⟨r1, e1'⟩ := sign_ok hr
                  have := sign_le r1 r e1' hr
                  have := s3 q r1 rfl e1'
                  have := hi q rfl
                  omega
                · obtain ⟨r1, e1'⟩ := sign_ok hr
                  have := sign_le r1 r e1' hr
                  have := s2.1 r1 e1'
                  dsimp only; omega
                · obtain ⟨r, hr⟩ := hq
                  obtain ⟨r1, e1'⟩ := sign_ok hr
                  obtain ⟨w1', w2, w3⟩ := hr8 ⟨r1, e1'⟩
                  refine ⟨by have := o6 (.inl q, P7); dsimp only at this ⊢; omega, (p9.1 440 30 (by decide)).trans w1', fun i hi1 hi2 => ?_, (p9.1 440 8 (by decide)).trans w3⟩
                  by_cases hlt : i < P7.1
                  · exact (k3 i hi1 hlt).fr (f8.tr p9.1.Q) hlt (fun j => o5 (.inl q, P7) i j hlt)
                  · exact (w2 i (by omega) hi2).fr (s := 80) p9.1.Q (by have := s2.2; dsimp only at hi2; omega) (fun j => rfl)
      have hww := w_word (B := B) (n := n) ht.w
      have wS := w_sign (c := 91) (w_num (lo := 0) (hi := 30) hww)
      have gS : G3 (tSign B n 91 (tNum B n 0 30 (tWord B n (.inl p))).2, addP P 6 (tNum B n 0 30 (tWord B n (.inl p))).1 0) := ⟨fun r hr => by
        obtain ⟨r1, e1⟩ := sign_ok hr
        obtain ⟨r2, e2⟩ := tNum_ok e1
        have := sign_le r1 r e1 hr
        have := num_le r2 r1 e2 e1
        have := word3 hpn hwa ha e2
        simp only [addP]; omega, by simp only [addP]; omega⟩
      have hGS := ssL_g (top := false) o3 o4 150 _ wS gS
      have hEX := EXP_ss (B := B) (n := n) (top := false) o5 o6 150 (tSign B n 91 (tNum B n 0 30 (tWord B n (.inl p))).2, addP P 6 (tNum B n 0 30 (tWord B n (.inl p))).1 0) P.1
      have hmono := hGS.2.2.2
      have h51 := hGS.2.1.2
      refine loop 150 (tSign B n 91 (tNum B n 0 30 (tWord B n (.inl p))).2, addP P 6 (tNum B n 0 30 (tWord B n (.inl p))).1 0) M6 (fun q _ => by omega) x6 FrQ.rf p6.2.1 p6.2.2 gS (fun _ => ⟨Nat.le_refl _, e306, fun i h1 h2 => by simp only [addP] at h2; omega, e86⟩) (fun M8 st8 x8 f8 t8 hs hr8 => ?_)
      have hxok : ∀ q, (ssL B n false F 150 (tSign B n 91 (tNum B n 0 30 (tWord B n (.inl p))).2, addP P 6 (tNum B n 0 30 (tWord B n (.inl p))).1 0)).1 = .inl q → ∃ z, (tNum B n 0 30 (tWord B n (.inl p))).2 = .inl z := by
        intro q hq
        cases hh : (tNum B n 0 30 (tWord B n (.inl p))).2 with
        | inl z => exact ⟨z, rfl⟩
        | inr g =>
          rw [hh, show tSign B n 91 (.inr g) = .inr g from rfl, ssL_FL] at hq
          cases hq
      simp only [agF] at kk
      generalize ssL B n false F 150 (tSign B n 91 (tNum B n 0 30 (tWord B n (.inl p))).2, addP P 6 (tNum B n 0 30 (tWord B n (.inl p))).1 0) = r at kk hs hr8 hEX hmono h51 hxok
      simp only [addP] at hmono hEX
      refine u190_172 hK x8 hk4 hz4 ⟨B, n, _, ⟨t8, by decide⟩, fun M9 x9 p9 => ⟨B, n, _, ⟨(p9.2.q (Or.inr (by decide))).q (Or.inl (by omega)), by decide⟩, fun M10 x10 p10 => ?_⟩⟩
      have t10 := p10.2
      rw [hs] at t10
      refine kk M10 x10 ((f06.tr (f8.mo (by omega))).tr ((p9.1.Q.up (Or.inr (by decide))).up (Or.inl (by omega)) |>.tr p10.1.Q)) t10 (fun hq => ?_)
      obtain ⟨w1', w2, w3⟩ := hr8 hq
      have e309 : M9 440 30 = (r.2.1 : Int) := (p9.1 440 30 (by decide)).trans w1'
      have e89 : M9 440 8 = op + 1 := (p9.1 440 8 (by decide)).trans w3
      have fr9 : ∀ a j, a ≠ 440 → M10 a j = mset M8 (808 + P.1) 3 (r.2.1 : Int) a j := by
        intro a j ha
        rw [p10.1 a j (fun h => ha h.1), e309]
        simp only [mset]
        split
        · rfl
        · rw [if_neg (fun h => ha h.1), p9.1 a j (fun h => ha h.1)]
      refine ⟨?_, fun i hi1 hi2 => ?_, ?_⟩
      · rw [p10.1 440 30 (by decide), ms_na (by omega), ms_nk (by decide), e309]
      · by_cases hi : i = P.1
        · subst hi
          have f8' : ∀ j, M8 (808 + P.1) j = M6 (808 + P.1) j := fun j => f8 _ j (by omega) (by omega)
          have x0 := hEX 0 (by omega)
          have x1' := hEX 1 (by omega)
          simp only [mset] at x0 x1'
          simp at x0 x1'
          obtain ⟨q9, hq9⟩ := hq
          obtain ⟨q8, hq8⟩ := sign_ok hq9
          obtain ⟨z, hz⟩ := hxok q8 hq8
          unfold RWm
          rw [fr9 _ 0 (by omega), fr9 _ 1 (by omega), fr9 _ 2 (by omega), fr9 _ 3 (by omega), ms_eq, ms_nk (by decide), ms_nk (by decide), ms_nk (by decide), f8' 0, f8' 1, er0, er1, okv_ok hz]
          simp only [mset]
          simp [x0, x1']
        · have w9 := w2 i (by omega) hi2
          unfold RWm at w9 ⊢
          have eM : ∀ j, mset M8 (808 + P.1) 3 (r.2.1 : Int) (808 + i) j = M8 (808 + i) j := fun j => ms_na (by omega)
          have eF : ∀ j, mset r.2.2 P.1 3 (r.2.1 : Int) i j = r.2.2 i j := fun j => ms_na hi
          rw [fr9 _ 0 (by omega), fr9 _ 1 (by omega), fr9 _ 2 (by omega), fr9 _ 3 (by omega)]
          simp only [eM, eF]
          exact w9
      · rw [p10.1 440 8 (by decide), ms_na (by omega), ms_eq, e89, w32_id (by omega)]; omega
  · -- no more brackets
    have h66 : op = 6 := by
      by_cases h : op = 6
      · exact h
      · exact absurd ⟨rfl, h⟩ hop6
    have ON : O = none := by
      cases O with
      | none => rfl
      | some S => have := (hO S rfl).1; omega
    subst ON
    have hu : stF B n nC nS none (.inl p, P) = (.inr (3, (p : Int)), P) := by
      simp only [stF]; rw [if_neg hne, if_pos h6]; rfl
    rw [hu] at kk
    have t2 := p2.2.1
    simp only [tOpen] at t2
    rw [if_pos h66] at t2
    exact kk M2 x2 (p1.1.Q.tr p2.1.Q) t2 (fun ⟨q, hq⟩ => by cases hq)
  · simp only [stF]; rw [if_pos heq]
def Olv (B : BY) (n : Nat) (nC nS : Int) : Nat → Option (XP → XP)
  | 0 => none
  | r + 1 => some (pSt B n nC nS r)
theorem pSt_eq {r : Nat} : pSt B n nC nS r = ssL B n false (stF B n nC nS (Olv B n nC nS r)) 150 := by
  cases r <;> rfl
theorem stF_end {O : Option (XP → XP)} {P : PG} : stF B n nC nS O (.inl n, P) = (.inr (1, (n : Int)), P) := by
  have h : stW B n (.inl n) = -1 := by
    simp only [stW]
    have : wdL B n (sp isS B n n) = [] := by rw [sp_end (Nat.le_refl _)]; unfold wdL; simp
    rw [this]; decide +kernel
  simp only [stF]; rw [if_pos h]
theorem CtQ.cg {D : Nat} {op : Int} {F : XP → XP} {D' : Nat} (h : CtQ B n D nC nS op F) (hd : D ≤ D') : CtQ B n D' nC nS op F := fun d M K Q p P h1 => h d M K Q p P (by omega)
theorem mSt_ok (hn : n ≤ 150) (hB : ∀ i, i < n → 0 ≤ B i) (hC : 0 ≤ nC ∧ nC ≤ 12) (hS : 0 ≤ nS ∧ nS ≤ 6) : ∀ r, r ≤ 6 → CtQ B n (5 * r + 5) nC nS (6 - (r : Int)) (stF B n nC nS (Olv B n nC nS r)) := by
  intro r
  induction r with
  | zero => intro _; exact (mstep_ok (D := 0) (O := none) hn hB (by omega) hC hS (fun S h => by cases h) (fun _ => by omega)).cg (by omega)
  | succ r ih =>
    intro hr
    have ih' := ih (by omega)
    have e : (6 : Int) - ((r + 1 : Nat) : Int) + 1 = 6 - (r : Int) := by omega
    refine (mstep_ok (D := 5 * r + 5) (O := some (pSt B n nC nS r)) hn hB (by omega) hC hS (fun S h => ?_) (fun h => by cases h)).cg (by omega)
    cases h
    rw [e]
    refine ⟨by omega, stF B n nC nS (Olv B n nC nS r), pSt_eq, ih', ?_, stF_FL, ?_, ?_, fun P => stF_end⟩
    · exact stF_g hn (fun S h => by
        cases r with
        | zero => cases h
        | succ r => cases h; exact pSt_g hn r)
    · exact EXP_st (fun S h => by
        cases r with
        | zero => cases h
        | succ r => cases h; exact (pSt_ex r).1)
    · exact mono_st (fun S h => by
        cases r with
        | zero => cases h
        | succ r => cases h; exact (pSt_ex r).2)
end QA
