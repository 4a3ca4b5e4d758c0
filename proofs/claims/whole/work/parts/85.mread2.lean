theorem u176_0 {d : Nat} {l1 : Int} {M : Mem} {K : KK} {Q : RR → Mem → KK → Prop} (hK : K.1 = 923) (hX : FX M)  (h : (((0 : Int) ≤ l1 ∧ l1 ≤ (M 440 1)) → ∃ n3 : Nat, (l1 = (n3 : Int) ∧ n3 ≤ 600) ∧ (∀ (M7 : Mem), FX M7 → (FrS (mset M 440 0 (0 : Int)) M7 ∧ TM ((mset M 440 0 (0 : Int)) 441) n3 M7 (.inl (sk ((mset M 440 0 (0 : Int)) 441) n3 0)) ∧ AtM M7 (.inl (sk ((mset M 440 0 (0 : Int)) 441) n3 0)) ∧ M7 440 1 = 0 ∧ M7 440 7 = 0 ∧ M7 440 8 = 0) → True ∧ (∀ (M11 : Mem), FX M11 → (Fr1 443 M7 M11 ∧ CN M11 c00) → Wp (d + 6) 176 42 [vR 440, vI l1] [] M11 K Q))) ∧ (¬ ((0 : Int) ≤ l1 ∧ l1 ≤ (M 440 1)) → (∀ (M14 : Mem), FX M14 → BadM 1 1 (mset M 440 0 (0 : Int)) M14 → Q (.inl (some (vI (0 : Int)))) M14 K))) : Wp (d + 6) 176 0 [vR 440, vI l1] [] M K Q := by
  refine r_aload_n c176_0 rfl ?_
  refine r_iconst c176_1 ?_
  refine r_putI c176_2 (oK hK o440) ?_
  have x1 := FX.set (v := (0 : Int)) (a := 440) (k := 0) hX (by decide +kernel)
  refine r_aload_n c176_5 rfl ?_
  refine r_iload_n c176_6 rfl ?_
  refine r_iconst c176_7 ?_
  refine r_aload_n c176_8 rfl ?_
  refine r_getIe c176_9 (oK hK o440) (ms_nk (by decide)) ?_
  refine r_call c176_12 rfl rfl (Nat.le_of_ble_eq_true rfl) (okc_s rfl rfl rfl) (g153 hK x1  (Bk_v ?_))
  refine r_ifP (P := ((0 : Int) ≤ l1 ∧ l1 ≤ (M 440 1))) c176_15 bI_ne (fun hc2 => ?_) (fun hc2 => ?_)
  · replace h := h.1 hc2
    refine r_iconst c176_22 ?_
    refine r_iconst c176_23 ?_
    refine r_iconst c176_24 ?_
    refine r_call c176_25 rfl rfl (Nat.le_of_ble_eq_true rfl) (okc_r rfl rfl (oK hK o440)) (b152_0 hK x1 ms_eq (Bk_v ?_))
    refine r_ifP (P := (0 : Int) = (0 : Int)) c176_28 rfl (fun hc => ?_) (fun hc => absurd (by decide) hc)
    refine r_aload_n c176_33 rfl ?_
    refine r_iload_n c176_34 rfl ?_
    obtain ⟨n3, h⟩ := h
    obtain ⟨p4, h⟩ := h
    refine r_call c176_35 rfl rfl (Nat.le_of_ble_eq_true rfl) (okc_r rfl rfl (oK hK o440)) (g171 hK x1 p4 (fun M7 x5 p6 => Bk_n ?_))
    replace h := h M7 x5 p6
    refine r_aload_n c176_38 rfl ?_
    obtain ⟨p8, h⟩ := h
    refine r_call c176_39 rfl rfl (Nat.le_of_ble_eq_true rfl) (okc_r rfl rfl (oK hK o440)) (g150z hK x5 p8 (fun M11 x9 p10 => Bk_n ?_))
    replace h := h M11 x9 p10
    exact h
  · replace h := h.2 hc2
    refine r_iconst c176_18 ?_
    refine r_goto c176_19 ?_
    refine r_iconst c176_23 ?_
    refine r_iconst c176_24 ?_
    refine r_call c176_25 rfl rfl (Nat.le_of_ble_eq_true rfl) (okc_r rfl rfl (oK hK o440)) (b152_1 (cd := 1) (ix := 1) hK x1 ms_eq (by decide) (by decide) (fun M14 x12 p13 => Bk_v ?_))
    replace h := h M14 x12 p13
    refine r_ifP (P := (1 : Int) = (0 : Int)) c176_28 rfl (fun hc => absurd hc (by decide)) (fun hc => ?_)
    refine r_iconst c176_31 ?_
    exact r_iret c176_32 (Or.inl rfl) h
theorem u176_42 {d : Nat} {l1 : Int} {M : Mem} {K : KK} {Q : RR → Mem → KK → Prop} (hK : K.1 = 923) (hX : FX M)  (h : (¬ (M 440 5) = (0 : Int) → Wm (d + 5) 172 [vR 440] M K (Bk (d + 5) 176 79 82 172 [vR 440, vI l1] [] Q)) ∧ ((M 440 5) = (0 : Int) → ((M 440 2) ≤ (M 440 4) → ∃ c5 : Mem, (CN (mset M 440 3 (-1 : Int)) c5 ∧ CW c5) ∧ (∀ (M9 : Mem), FX M9 → (FrNew (mset M 440 3 (-1 : Int)) M9 ∧ MCc M9 c5 ∧ LMr M9 888 c5 (begS c5) ∧ M9 888 26 = -1 ∧ M9 440 21 = 0 ∧ M9 440 35 = 0 ∧ M9 440 36 = 0 ∧ M9 440 37 = 0 ∧ M9 440 38 = 0) → Q (.inl (some (vI (M9 444 1)))) M9 K)) ∧ (¬ ((M 440 2) ≤ (M 440 4)) → ∃ B10 : BY, ∃ n11 : Nat, ∃ p12 : Nat, ∃ cl13 : Nat, ∃ c14 : Mem, (TM B10 n11 M (.inl p12) ∧ CN M c14 ∧ CW c14 ∧ M 440 7 = (cl13 : Int) ∧ cl13 ≤ 60) ∧ (∀ (M18 : Mem), FX M18 → (FrD M M18 ∧ TM B10 n11 M18 (clF B10 n11 cl13 (.inl p12, c14)).1 ∧ CNo M18 (clF B10 n11 cl13 (.inl p12, c14)) ∧ ((∃ q, (clF B10 n11 cl13 (.inl p12, c14)).1 = .inl q) → M18 440 7 = (cl13 : Int) + 1)) → ∃ B19 : BY, ∃ n20 : Nat, ∃ st21 : ST, TM B19 n20 M18 st21 ∧ (∀ (M25 : Mem), FX M25 → (FrM M18 M25 ∧ TM B19 n20 M25 st21 ∧ AtM M25 st21) → Wp (d + 6) 176 42 [vR 440, vI l1] [] M25 K Q))))) : Wp (d + 6) 176 42 [vR 440, vI l1] [] M K Q := by
  refine r_aload_n c176_42 rfl ?_
  refine r_getIe c176_43 (oK hK o440) rfl ?_
  refine r_ifP (P := ¬ (M 440 5) = (0 : Int)) c176_46 rfl (fun hc1 => ?_) (fun hc1 => ?_)
  · replace h := h.1 hc1
    refine r_aload_n c176_71 rfl ?_
    refine r_getIe c176_72 (oK hK o440) rfl ?_
    refine r_ifP (P := (M 440 5) = (0 : Int)) c176_75 rfl (fun hc => absurd hc hc1) (fun hc => ?_)
    refine r_aload_n c176_78 rfl ?_
    exact r_call c176_79 rfl rfl (Nat.le_of_ble_eq_true rfl) (okc_r rfl rfl (oK hK o440)) h
  · have hc2 := Classical.not_not.mp hc1
    replace h := h.2 hc2
    refine r_aload_n c176_49 rfl ?_
    refine r_getIe c176_50 (oK hK o440) rfl ?_
    refine r_aload_n c176_53 rfl ?_
    refine r_getIe c176_54 (oK hK o440) rfl ?_
    refine r_icmpP (P := (M 440 2) ≤ (M 440 4)) c176_57 rfl (fun hc3 => ?_) (fun hc3 => ?_)
    · replace h := h.1 hc3
      refine r_aload_n c176_71 rfl ?_
      refine r_getIe c176_72 (oK hK o440) rfl ?_
      refine r_ifP (P := (M 440 5) = (0 : Int)) c176_75 rfl (fun hc => ?_) (fun hc => absurd hc2 hc)
      refine r_aload_n c176_83 rfl ?_
      refine r_iconst c176_84 ?_
      refine r_putI c176_85 (oK hK o440) ?_
      have x4 := FX.set (v := (-1 : Int)) (a := 440) (k := 3) hX (by decide +kernel)
      refine r_aload_n c176_88 rfl ?_
      obtain ⟨c5, h⟩ := h
      obtain ⟨p6, h⟩ := h
      refine r_call c176_89 rfl rfl (Nat.le_of_ble_eq_true rfl) (okc_r rfl rfl (oK hK o440)) (g179 hK x4 p6 (fun M9 x7 p8 => Bk_n ?_))
      replace h := h M9 x7 p8
      refine r_aload_n c176_92 rfl ?_
      refine r_getR c176_93 (oK hK o440) (FX.get (b := 444) x7 (by decide) (by decide +kernel) (by decide)) (by decide) ?_
      refine r_iconst c176_96 ?_
      refine r_iae c176_97 (oK hK o444) (bd l444 (by decide)) rfl ?_
      exact r_iret c176_98 (Or.inl rfl) h
    · replace h := h.2 hc3
      refine r_aload_n c176_60 rfl ?_
      obtain ⟨B10, h⟩ := h
      obtain ⟨n11, h⟩ := h
      obtain ⟨p12, h⟩ := h
      obtain ⟨cl13, h⟩ := h
      obtain ⟨c14, h⟩ := h
      obtain ⟨p15, h⟩ := h
      refine r_call c176_61 rfl rfl (Nat.le_of_ble_eq_true rfl) (okc_r rfl rfl (oK hK o440)) (g175 hK hX p15 (fun M18 x16 p17 => Bk_n ?_))
      replace h := h M18 x16 p17
      refine r_aload_n c176_64 rfl ?_
      obtain ⟨B19, h⟩ := h
      obtain ⟨n20, h⟩ := h
      obtain ⟨st21, h⟩ := h
      obtain ⟨p22, h⟩ := h
      refine r_call c176_65 rfl rfl (Nat.le_of_ble_eq_true rfl) (okc_r rfl rfl (oK hK o440)) (g159 hK x16 p22 (fun M25 x23 p24 => Bk_n ?_))
      replace h := h M25 x23 p24
      refine r_goto c176_68 ?_
      exact h
theorem u176_82 {d : Nat} {l1 : Int} {t0 : Int} {M : Mem} {K : KK} {Q : RR → Mem → KK → Prop} (hK : K.1 = 923) (hX : FX M)  (h : Q (.inl (some (vI t0))) M K) : Wp (d + 6) 176 82 [vR 440, vI l1] [vI t0] M K Q := by
  exact r_iret c176_82 (Or.inl rfl) h
/-! texts read: the model; common -/
section MR2
variable {d : Nat} {M M' : Mem} {K : KK} {Q : RR → Mem → KK → Prop} {nB : Nat} {B : BY} {fp : Int} {c : Mem} {L : LC} {s : Mem} {H : List Mem} {I : List IMG} {Y : LC} {rf ms wr : Int} {n : Nat}
theorem FrD.km (h : FrD M M') : KmR M M' := fun a k p1 p2 p3 p4 p5 p6 p7 p8 => h a k (by omega) (by omega)
theorem Fr1.km (h : Fr1 443 M M') : KmR M M' := fun a k p1 p2 p3 p4 p5 p6 p7 p8 => h a k (by omega)
theorem clF_60 {cl : Nat} {x : XC} (h : 60 ≤ cl) : ∃ f, (clF B n cl x).1 = .inr f := by
  obtain ⟨st, cc⟩ := x
  cases st with
  | inr f => exact ⟨f, rfl⟩
  | inl p =>
    simp only [clF]
    split
    · exact ⟨_, rfl⟩
    · rw [if_pos (Or.inl h)]; exact ⟨_, rfl⟩
theorem m176 {v : Int} (hK : K.1 = 923) (hX : FX M) (hI : IV nB B c s H I Y) (h : MS M nB B fp c L s H I Y rf ms wr) (kb : ¬ txOK nB v 600 → ∀ M', FX M' → BadM 1 1 M M' → Q (.inl (some (vI 0))) M' K) (k1 : txOK nB v 600 → ∀ p, (pCom B v.toNat).1 = .inl p → ∀ M', FX M' → LoM M M' → M' 440 0 = 0 → MS M' 0 B (-1) (pCom B v.toNat).2 [] (begS (pCom B v.toNat).2) [] [] [] 0 ms wr → Q (.inl (some (vI ((pCom B v.toNat).2 0 1)))) M' K) (k2 : txOK nB v 600 → ∀ f, (pCom B v.toNat).1 = .inr f → ∀ M', FX M' → LoM M M' → M' 440 0 = 0 → MS M' 0 B f.2 c L s H I Y rf ms wr → Q (.inl (some (vI (w32 (f.1 - 10))))) M' K) : Wm (d + 6) 176 [vR 440, vI v] M K Q := by
  have h1 := h.1.1
  have h600 := hI.1
  refine u176_0 hK hX ⟨fun hv => ?_, fun hv M1 x1 b1 => kb (fun h9 => hv ⟨h9.1, by rw [h1]; exact h9.2.2⟩) M1 x1 (BadM.of FrQm.t0 b1 (by decide))⟩
  rw [h1] at hv
  have kk1 := k1 ⟨hv.1, by omega, hv.2⟩
  have kk2 := k2 ⟨hv.1, by omega, hv.2⟩
  obtain ⟨n, rfl⟩ : ∃ n : Nat, v = (n : Int) := ⟨v.toNat, by omega⟩
  rw [Int.toNat_natCast] at kk1 kk2
  have hB0 : ∀ i, i < n → 0 ≤ B i := fun i hi => (hI.2.1 i (by omega)).1
  refine ⟨n, ⟨rfl, by omega⟩, fun M1 x1 ⟨f1, t1, a1, z1, z7, z8⟩ => ⟨trivial, fun M2 x2 ⟨f2, c2⟩ => ?_⟩⟩
  obtain ⟨t1, a1⟩ := TM.cg (fun i hi => (ms_na (by decide)).trans (h.1.2.1 i (by omega))) t1 a1
  have q2 : KmR M M2 := (KmR.t0.tr f1.km).tr f2.km
  have lo2 : LoM M M2 := ((FrQm.t0 (M := M)).lo.tr (fun a k h9 => f1 a k (by omega))).tr (fun a k h9 => f2 a k (by omega))
  have z0 : M2 440 0 = 0 ∧ M2 440 1 = 0 := ⟨(f2 _ _ (by decide)).trans ((f1 440 0 (by decide)).trans ms_eq), (f2 _ _ (by decide)).trans z1⟩
  have tm2 : ∀ st, TM B n M1 st → TM B n M2 st := by
    intro st ht
    obtain ⟨⟨h1, h2, h3⟩, a, h4, h5, h6⟩ := ht
    refine ⟨⟨(f2 _ _ (by decide)).trans h1, h2, fun i hi => (f2 _ _ (by decide)).trans (h3 i hi)⟩, a, (f2 _ _ (by decide)).trans h4, h5, ?_⟩
    cases st with
    | inl p => exact ⟨(f2 _ _ (by decide)).trans h6.1, h6.2⟩
    | inr f => exact ⟨(f2 _ _ (by decide)).trans h6.1, (f2 _ _ (by decide)).trans h6.2.1, h6.2.2⟩
  have loop : ∀ f cl (x : XC), f + cl = 61 → pCom B n = clL B n f cl x → ((∃ p, x.1 = .inl p) → cl ≤ 60) → ∀ M3, FX M3 → KmR M M3 → LoM M M3 → (M3 440 0 = 0 ∧ M3 440 1 = 0) → TM B n M3 x.1 → AtM M3 x.1 → CNo M3 x → CW x.2 → ((∃ p, x.1 = .inl p) → M3 440 7 = (cl : Int)) → Wp (d + 6) 176 42 [vR 440, vI (n : Int)] [] M3 K Q := by
    intro f
    induction f with
    | zero =>
      rintro cl ⟨st, cc⟩ hfc hP h60 M3 x3 q3 lo3 z3 t3 a3 c3 w3 e3
      dsimp only at *
      cases st with
      | inl p => have := h60 ⟨p, rfl⟩; omega
      | inr f =>
        have tf := t3.f
        have hp : (pCom B n).1 = .inr f := by rw [hP]; rfl
        refine u176_42 hK x3 ⟨fun _ => ?_, fun h9 => absurd h9 (by rw [tf.1]; exact tf.2.2)⟩
        refine g172 hK x3 t3 (fun x5 => Bk_v (u176_82 hK x5 ?_))
        exact kk2 f hp _ x5 (fun a k h9 => (ms_na (by omega)).trans (lo3 a k h9)) ((ms_nk (by decide)).trans z3.1) (h.rd hI (q3.tr (KmR.set (by omega))) ⟨(ms_nk (by decide)).trans z3.2, fun i hi => absurd hi (by omega), ms_eq⟩)
    | succ f ih =>
      rintro cl ⟨st, cc⟩ hfc hP h60 M3 x3 q3 lo3 z3 t3 a3 c3 w3 e3
      dsimp only at *
      cases st with
      | inr f0 =>
        have tf := t3.f
        have hp : (pCom B n).1 = .inr f0 := by rw [hP]; simp only [clL]; rw [if_pos (show pk B n (Sum.inr f0) = -1 from rfl)]
        refine u176_42 hK x3 ⟨fun _ => ?_, fun h9 => absurd h9 (by rw [tf.1]; exact tf.2.2)⟩
        refine g172 hK x3 t3 (fun x5 => Bk_v (u176_82 hK x5 ?_))
        exact kk2 f0 hp _ x5 (fun a k h9 => (ms_na (by omega)).trans (lo3 a k h9)) ((ms_nk (by decide)).trans z3.1) (h.rd hI (q3.tr (KmR.set (by omega))) ⟨(ms_nk (by decide)).trans z3.2, fun i hi => absurd hi (by omega), ms_eq⟩)
      | inl p =>
        have tp := t3.p
        have ta := t3.a a3
        have hcl := h60 ⟨p, rfl⟩
        have cn : CN M3 cc := c3 p rfl
        refine u176_42 hK x3 ⟨fun h9 => absurd tp h9, fun _ => ⟨fun h9 => ?_, fun h9 => ?_⟩⟩
        · have hpn : ¬ p < n := by omega
          have hpk : pk B n (.inl p) = -1 := by show (if p < n then B p else -1) = -1; rw [if_neg hpn]
          have hp : pCom B n = (.inl p, cc) := by rw [hP]; simp only [clL]; rw [if_pos hpk]
          have hp2 : (pCom B n).2 = cc := by rw [hp]
          have k1' := kk1 p (by rw [hp])
          rw [hp2] at k1'
          have cn' : CN (mset M3 440 3 (-1)) cc := by
            obtain ⟨y1, y2, y3, y4, y5⟩ := cn
            have hn := w3.n
            exact ⟨fun k hk => (ms_na (by decide)).trans (y1 k hk), fun i hi => (ms_na (by decide)).trans (y2 i hi), fun i hi => ⟨(ms_na (by omega)).trans (y3 i hi).1, (ms_na (by omega)).trans (y3 i hi).2⟩, fun i hi => (ms_na (by decide)).trans (y4 i hi), fun i hi => (ms_na (by decide)).trans (y5 i hi)⟩
          refine ⟨cc, ⟨cn', w3⟩, fun M4 x4 ⟨f4, mc, lm, e26, e21, e35, e36, e37, e38⟩ => ?_⟩
          rw [mc.1 1 (by decide)]
          have u4 : ∀ a k, ¬ (a = 444 ∨ a = 446 ∨ a = 448 ∨ a = 450 ∨ (459 ≤ a ∧ a ≤ 464) ∨ a = 888) → ¬ (a = 440 ∧ (k = 3 ∨ k = 21 ∨ (35 ≤ k ∧ k ≤ 38))) → M4 a k = M3 a k := fun a k p1 p2 => by
            rw [f4 a k p1 (by omega)]; unfold mset; rw [if_neg (by omega)]
          have e3' : M4 440 3 = -1 := (f4 _ _ (by decide) (by decide)).trans ms_eq
          have c441 : ∀ k, k < 2 → M4 442 k = M 442 k := fun k hk => (u4 _ _ (by decide) (by omega)).trans (q3 442 k (by decide) (by decide) (by unfold scM; omega) (by omega) (by omega) (by omega) (by omega) (by omega))
          refine k1' M4 x4 (fun a k h8 => (u4 a k (by omega) (by omega)).trans (lo3 a k h8)) ((u4 _ _ (by decide) (by decide)).trans z3.1) ⟨⟨(u4 _ _ (by decide) (by decide)).trans z3.2, fun i hi => absurd hi (by omega), e3'⟩, ⟨⟨mc, w3, lm, begS_w w3, e26⟩, e21, by simp, fun i hi => absurd hi (by simp), Or.inl rfl⟩, ⟨e35, by simp, fun k hk => absurd hk (by simp)⟩, ⟨e36, fun i hi => absurd hi (by simp)⟩, ⟨e38, fun i hi => absurd hi (by simp)⟩, e37, (c441 0 (by decide)).trans h.2.2.2.2.2.2.1, (c441 1 (by decide)).trans h.2.2.2.2.2.2.2⟩
        · have hpn : p < n := by omega
          have hpk : ¬ pk B n (.inl p) = -1 := by
            show ¬ (if p < n then B p else -1) = -1
            rw [if_pos hpn]; have := hB0 p hpn; omega
          refine ⟨B, n, p, cl, cc, ⟨t3, cn, w3, e3 ⟨p, rfl⟩, hcl⟩, fun M4 x4 ⟨f4, t4, c4, e4⟩ => ⟨B, n, _, t4, fun M5 x5 ⟨f5, t5, a5⟩ => ?_⟩⟩
          have hP' : pCom B n = clL B n f (cl + 1) (clF B n cl (.inl p, cc)) := by rw [hP]; simp only [clL]; rw [if_neg hpk]
          have cw : CW (clF B n cl (.inl p, cc)).2 := clF_w w3
          refine ih (cl + 1) (clF B n cl (.inl p, cc)) (by omega) hP' (fun ⟨q, hq⟩ => ?_) M5 x5 ((q3.tr f4.km).tr f5.km) ((lo3.tr (fun a k h8 => f4 a k (by omega) (by omega))).tr (fun a k h8 => f5 a k (by omega))) ⟨(f5 _ _ (by decide)).trans ((f4 _ _ (by decide) (by decide)).trans z3.1), (f5 _ _ (by decide)).trans ((f4 _ _ (by decide) (by decide)).trans z3.2)⟩ t5 a5 (fun q hq => ?_) cw (fun hq => ?_)
          · by_cases h60' : 60 ≤ cl
            · obtain ⟨f9, hf9⟩ := clF_60 (B := B) (n := n) (x := (.inl p, cc)) h60'
              rw [hf9] at hq; cases hq
            · omega
          · obtain ⟨y1, y2, y3, y4, y5⟩ := c4 q hq
            have hn := cw.n
            exact ⟨fun k hk => (f5 _ _ (by omega)).trans (y1 k hk), fun i hi => (f5 _ _ (by omega)).trans (y2 i hi), fun i hi => ⟨(f5 _ _ (by omega)).trans (y3 i hi).1, (f5 _ _ (by omega)).trans (y3 i hi).2⟩, fun i hi => (f5 _ _ (by omega)).trans (y4 i hi), fun i hi => (f5 _ _ (by omega)).trans (y5 i hi)⟩
          · rw [f5 _ _ (by decide), e4 hq]; omega
  exact loop 61 0 (.inl (sk B n 0), c00) rfl rfl (fun _ => by decide) M2 x2 q2 lo2 z0 (tm2 _ t1) ((f2 _ _ (by decide)).trans a1) (fun _ _ => c2) CW00 (fun _ => (f2 _ _ (by decide)).trans z7)
end MR2
