/-! the model's whitening and room -/
theorem bx0 {p : Nat} (h : p < 6) : 0 ≤ w32 (0 + (p : Int)) ∧ w32 (0 + (p : Int)) < 27 := by rw [w32_id (by omega)]; omega
theorem ix0 {p : Nat} (h : p < 6) : Int.toNat (w32 (0 + (p : Int))) = p := by rw [w32_id (by omega)]; omega
theorem bx6 {p : Nat} (h : p < 6) : 0 ≤ w32 (6 + (p : Int)) ∧ w32 (6 + (p : Int)) < 27 := by rw [w32_id (by omega)]; omega
theorem ix6 {p : Nat} (h : p < 6) : Int.toNat (w32 (6 + (p : Int))) = 6 + p := by rw [w32_id (by omega)]; omega
theorem bx12 {p : Nat} (h : p < 6) : 0 ≤ w32 (12 + (p : Int)) ∧ w32 (12 + (p : Int)) < 27 := by rw [w32_id (by omega)]; omega
theorem ix12 {p : Nat} (h : p < 6) : Int.toNat (w32 (12 + (p : Int))) = 12 + p := by rw [w32_id (by omega)]; omega
theorem bx18 {p : Nat} (h : p < 6) : 0 ≤ w32 (18 + (p : Int)) ∧ w32 (18 + (p : Int)) < 27 := by rw [w32_id (by omega)]; omega
theorem ix18 {p : Nat} (h : p < 6) : Int.toNat (w32 (18 + (p : Int))) = 18 + p := by rw [w32_id (by omega)]; omega
theorem u195_0 {d : Nat} {l1 : Nat} {l2 : Int} {M : Mem} {K : KK} {Q : RR → Mem → KK → Prop} (hK : K.1 = 923) (hX : FX M) (k1 : isO 923 l1 20 = true) (z1 : ln l1 = 27) (h : (0 ≤ (w32 ((0 : Int) + l2)) ∧ (w32 ((0 : Int) + l2)) < (27 : Int)) ∧ (¬ (M l1 (Int.toNat (w32 ((0 : Int) + l2)))) = (-1 : Int) → (0 ≤ (w32 ((0 : Int) + l2)) ∧ (w32 ((0 : Int) + l2)) < (27 : Int)) ∧ (0 ≤ (w32 ((6 : Int) + l2)) ∧ (w32 ((6 : Int) + l2)) < (27 : Int)) ∧ ∃ c6 : Mem, ∃ s7 : Mem, ∃ dr8 : Int, SM M l1 c6 s7 dr8 ∧ (0 ≤ (w32 ((12 : Int) + l2)) ∧ (w32 ((12 : Int) + l2)) < (27 : Int)) ∧ (0 ≤ (w32 ((18 : Int) + l2)) ∧ (w32 ((18 : Int) + l2)) < (27 : Int)) ∧ ∃ c12 : Mem, ∃ L13 : LC, ∃ p14 : Nat, (l2 = (p14 : Int) ∧ MCc M c12 ∧ CW c12 ∧ LM M L13 ∧ p14 < nSt c12 ∧ 0 ≤ (M l1 (Int.toNat (w32 ((0 : Int) + l2)))) ∧ (M l1 (Int.toNat (w32 ((0 : Int) + l2)))) + c12 2 p14 ≤ c12 0 0) ∧ (∀ (M18 : Mem), FX M18 → FrV M M18 → Q (.inl (some (vI (whB c12 L13 p14 (M l1 (Int.toNat (w32 ((0 : Int) + l2)))) (M l1 (Int.toNat (w32 ((6 : Int) + l2)))) (rainM c6 s7 dr8) (M l1 (Int.toNat (w32 ((12 : Int) + l2)))) (M l1 (Int.toNat (w32 ((18 : Int) + l2)))) (M l1 24))))) M18 K)) ∧ ((M l1 (Int.toNat (w32 ((0 : Int) + l2)))) = (-1 : Int) → Q (.inl (some (vI (0 : Int)))) M K)) : Wp (d + 4) 195 0 [vR 440, vR l1, vI l2] [] M K Q := by
  refine r_aload_n c195_0 rfl ?_
  refine r_iconst c195_1 ?_
  refine r_iload_n c195_2 rfl ?_
  refine r_iadd c195_3 ?_
  obtain ⟨s1, h⟩ := h
  refine r_iae c195_4 (oK hK k1) (bd z1 s1) rfl ?_
  refine r_iconst c195_5 ?_
  refine r_icmpP (P := ¬ (M l1 (Int.toNat (w32 ((0 : Int) + l2)))) = (-1 : Int)) c195_6 rfl (fun hc2 => ?_) (fun hc2 => ?_)
  · replace h := h.1 hc2
    refine r_aload_n c195_13 rfl ?_
    refine r_iload_n c195_14 rfl ?_
    refine r_aload_n c195_15 rfl ?_
    refine r_iconst c195_16 ?_
    refine r_iload_n c195_17 rfl ?_
    refine r_iadd c195_18 ?_
    obtain ⟨s4, h⟩ := h
    refine r_iae c195_19 (oK hK k1) (bd z1 s4) rfl ?_
    refine r_aload_n c195_20 rfl ?_
    refine r_bipush c195_21 ?_
    refine r_iload_n c195_23 rfl ?_
    refine r_iadd c195_24 ?_
    obtain ⟨s5, h⟩ := h
    refine r_iae c195_25 (oK hK k1) (bd z1 s5) rfl ?_
    refine r_aload_n c195_26 rfl ?_
    refine r_aload_n c195_27 rfl ?_
    obtain ⟨c6, h⟩ := h
    obtain ⟨s7, h⟩ := h
    obtain ⟨dr8, h⟩ := h
    obtain ⟨p9, h⟩ := h
    refine r_call c195_28 rfl rfl (Nat.le_of_ble_eq_true rfl) (okc_r rfl rfl (oK hK o440)) (g193 hK hX k1 z1 p9 (Bk_v ?_))
    refine r_aload_n c195_31 rfl ?_
    refine r_bipush c195_32 ?_
    refine r_iload_n c195_34 rfl ?_
    refine r_iadd c195_35 ?_
    obtain ⟨s10, h⟩ := h
    refine r_iae c195_36 (oK hK k1) (bd z1 s10) rfl ?_
    refine r_aload_n c195_37 rfl ?_
    refine r_bipush c195_38 ?_
    refine r_iload_n c195_40 rfl ?_
    refine r_iadd c195_41 ?_
    obtain ⟨s11, h⟩ := h
    refine r_iae c195_42 (oK hK k1) (bd z1 s11) rfl ?_
    refine r_aload_n c195_43 rfl ?_
    refine r_bipush c195_44 ?_
    refine r_iae c195_46 (oK hK k1) (bd z1 (by decide)) rfl ?_
    obtain ⟨c12, h⟩ := h
    obtain ⟨L13, h⟩ := h
    obtain ⟨p14, h⟩ := h
    obtain ⟨p15, h⟩ := h
    refine r_call c195_47 rfl rfl (Nat.le_of_ble_eq_true rfl) (okc_r rfl rfl (oK hK o440)) (g194 hK hX p15 (fun M18 x16 p17 => Bk_v ?_))
    replace h := h M18 x16 p17
    exact r_iret c195_50 (Or.inl rfl) h
  · have hc3 := Classical.not_not.mp hc2
    replace h := h.2 hc3
    refine r_iconst c195_9 ?_
    refine r_goto c195_10 ?_
    exact r_iret c195_50 (Or.inl rfl) h
theorem u197_0 {d : Nat} {l1 : Nat} {l2 : Int} {l3 : Int} {M : Mem} {K : KK} {Q : RR → Mem → KK → Prop} (hK : K.1 = 923) (hX : FX M) (k1 : isO 923 l1 20 = true) (z1 : ln l1 = 27) (h : (0 ≤ l2 ∧ l2 < (6 : Int)) ∧ ((w32 (l3 + (M (459 + Int.toNat l2) 0))) ≤ (M 444 0) → Wp (d + 2) 197 24 [vR 440, vR l1, vI l2, vI l3, vI l3] [] M K Q) ∧ (¬ ((w32 (l3 + (M (459 + Int.toNat l2) 0))) ≤ (M 444 0)) → Q (.inl (some (vI (0 : Int)))) M K)) : Wp (d + 2) 197 0 [vR 440, vR l1, vI l2, vI l3, vU] [] M K Q := by
  refine r_iload_n c197_0 rfl ?_
  refine r_aload_n c197_1 rfl ?_
  refine r_getR c197_2 (oK hK o440) (FX.get (b := 458) hX (by decide) (by decide +kernel) (by decide)) (by decide) ?_
  refine r_iload_n c197_5 rfl ?_
  obtain ⟨s1, h⟩ := h
  refine r_aa c197_6 (mrw o458 hK) (bd l458 s1) (rf458 hX s1) (by omega) ?_
  refine r_iconst c197_7 ?_
  refine r_iae c197_8 (oK hK (ro458 s1)) (bd (rz458 s1) (by decide)) rfl ?_
  refine r_iadd c197_9 ?_
  refine r_aload_n c197_10 rfl ?_
  refine r_getR c197_11 (oK hK o440) (FX.get (b := 444) hX (by decide) (by decide +kernel) (by decide)) (by decide) ?_
  refine r_iconst c197_14 ?_
  refine r_iae c197_15 (oK hK o444) (bd l444 (by decide)) rfl ?_
  refine r_icmpP (P := (w32 (l3 + (M (459 + Int.toNat l2) 0))) ≤ (M 444 0)) c197_16 rfl (fun hc2 => ?_) (fun hc2 => ?_)
  · replace h := h.1 hc2
    refine r_iload_n c197_21 rfl ?_
    refine r_istore c197_22 (Nat.le_of_ble_eq_true rfl) ?_
    exact h
  · replace h := h.2 hc2
    refine r_iconst c197_19 ?_
    exact r_iret c197_20 (by decide) h
theorem u197_24 {d : Nat} {l1 : Nat} {l2 : Int} {l3 : Int} {l4 : Int} {M : Mem} {K : KK} {Q : RR → Mem → KK → Prop} (hK : K.1 = 923) (hX : FX M) (k1 : isO 923 l1 20 = true) (z1 : ln l1 = 27) (h : (0 ≤ l2 ∧ l2 < (6 : Int)) ∧ ((w32 (l3 + (M (459 + Int.toNat l2) 0))) ≤ l4 → Q (.inl (some (vI (1 : Int)))) M K) ∧ (¬ ((w32 (l3 + (M (459 + Int.toNat l2) 0))) ≤ l4) → ∃ c3 : Mem, ∃ s4 : Mem, ∃ dr5 : Int, SM M l1 c3 s4 dr5 ∧ ((lyOn c3 s4 l4) = (-1 : Int) → Wp (d + 2) 197 24 [vR 440, vR l1, vI l2, vI l3, vI (w32 (l4 + 1))] [] M K Q) ∧ (¬ ((lyOn c3 s4 l4) = (-1 : Int)) → ∃ c8 : Mem, ∃ s9 : Mem, ∃ dr10 : Int, SM M l1 c8 s9 dr10 ∧ ((lyOn c8 s9 l4) = l2 → Wp (d + 2) 197 24 [vR 440, vR l1, vI l2, vI l3, vI (w32 (l4 + 1))] [] M K Q) ∧ (¬ ((lyOn c8 s9 l4) = l2) → Q (.inl (some (vI (0 : Int)))) M K)))) : Wp (d + 2) 197 24 [vR 440, vR l1, vI l2, vI l3, vI l4] [] M K Q := by
  refine r_iload c197_24 rfl ?_
  refine r_iload_n c197_26 rfl ?_
  refine r_aload_n c197_27 rfl ?_
  refine r_getR c197_28 (oK hK o440) (FX.get (b := 458) hX (by decide) (by decide +kernel) (by decide)) (by decide) ?_
  refine r_iload_n c197_31 rfl ?_
  obtain ⟨s1, h⟩ := h
  refine r_aa c197_32 (mrw o458 hK) (bd l458 s1) (rf458 hX s1) (by omega) ?_
  refine r_iconst c197_33 ?_
  refine r_iae c197_34 (oK hK (ro458 s1)) (bd (rz458 s1) (by decide)) rfl ?_
  refine r_iadd c197_35 ?_
  refine r_icmpP (P := (w32 (l3 + (M (459 + Int.toNat l2) 0))) ≤ l4) c197_36 rfl (fun hc2 => ?_) (fun hc2 => ?_)
  · replace h := h.1 hc2
    refine r_iconst c197_69 ?_
    exact r_iret c197_70 (by decide) h
  · replace h := h.2 hc2
    refine r_aload_n c197_39 rfl ?_
    refine r_aload_n c197_40 rfl ?_
    refine r_iload c197_41 rfl ?_
    obtain ⟨c3, h⟩ := h
    obtain ⟨s4, h⟩ := h
    obtain ⟨dr5, h⟩ := h
    obtain ⟨p6, h⟩ := h
    refine r_call c197_43 rfl rfl (Nat.le_of_ble_eq_true rfl) (okc_r rfl rfl (oK hK o440)) (g196 hK hX k1 z1 p6 (Bk_v ?_))
    refine r_iconst c197_46 ?_
    refine r_icmpP (P := (lyOn c3 s4 l4) = (-1 : Int)) c197_47 rfl (fun hc7 => ?_) (fun hc7 => ?_)
    · replace h := h.1 hc7
      refine r_iinc c197_63 rfl ?_
      refine r_goto c197_66 ?_
      exact h
    · replace h := h.2 hc7
      refine r_aload_n c197_50 rfl ?_
      refine r_aload_n c197_51 rfl ?_
      refine r_iload c197_52 rfl ?_
      obtain ⟨c8, h⟩ := h
      obtain ⟨s9, h⟩ := h
      obtain ⟨dr10, h⟩ := h
      obtain ⟨p11, h⟩ := h
      refine r_call c197_54 rfl rfl (Nat.le_of_ble_eq_true rfl) (okc_r rfl rfl (oK hK o440)) (g196 hK hX k1 z1 p11 (Bk_v ?_))
      refine r_iload_n c197_57 rfl ?_
      refine r_icmpP (P := (lyOn c8 s9 l4) = l2) c197_58 rfl (fun hc12 => ?_) (fun hc12 => ?_)
      · replace h := h.1 hc12
        refine r_iinc c197_63 rfl ?_
        refine r_goto c197_66 ?_
        exact h
      · replace h := h.2 hc12
        refine r_iconst c197_61 ?_
        exact r_iret c197_62 (by decide) h
theorem roomS_ly {c s : Mem} {p : Nat} {x : Nat} (hw : CW c) (hl : LW c s) (hp : p < nSt c) : roomS c s p (x : Int) = true ↔ (x : Int) + c 2 p ≤ c 0 0 ∧ ∀ i : Nat, i < (c 2 p).toNat → lyOn c s ((x + i : Nat) : Int) = -1 ∨ lyOn c s ((x + i : Nat) : Int) = (p : Int) := by
  rw [roomS_iff]
  have hyp := hw.y hp
  constructor
  · rintro ⟨h1, h2⟩
    refine ⟨h1, fun i hi => ?_⟩
    rcases lyOn_rg (c := c) (s := s) (cell := ((x + i : Nat) : Int)) with h | ⟨q, h, hq, hon⟩
    · exact Or.inl h
    · refine Or.inr ?_
      rw [onP_iff] at hon
      have := h2 q hq
      have : q = p := by omega
      rw [h, this]
  · rintro ⟨h1, h2⟩
    refine ⟨h1, fun o ho => ?_⟩
    by_cases h : o = p ∨ s 0 o = -1 ∨ (x : Int) + c 2 p ≤ s 0 o ∨ s 0 o + c 2 o ≤ (x : Int)
    · exact h
    · exfalso
      have hyo := hw.y ho
      have hro := (hl.1 o ho).1
      -- a cell of both
      have hcell : ∃ i : Nat, i < (c 2 p).toNat ∧ s 0 o ≤ ((x + i : Nat) : Int) ∧ ((x + i : Nat) : Int) < s 0 o + c 2 o := by
        by_cases hh : s 0 o ≤ (x : Int)
        · exact ⟨0, by omega, by omega, by omega⟩
        · exact ⟨(s 0 o - x).toNat, by omega, by omega, by omega⟩
      obtain ⟨i, hi1, hi2, hi3⟩ := hcell
      have hon : onP c s ((x + i : Nat) : Int) o = true := onP_iff.mpr ⟨by omega, hi2, hi3⟩
      rcases lyOn_rg (c := c) (s := s) (cell := ((x + i : Nat) : Int)) with h' | ⟨q, h', hq, honq⟩
      · exact lyOn_ne.mpr ⟨o, ho, hon⟩ h'
      · rw [onP_iff] at honq
        have hqo : q = o := by
          by_cases hqo : q = o
          · exact hqo
          · have := hl.2.2.2 q o hq ho hqo honq.1 (by omega)
            omega
        subst hqo
        rcases h2 i hi1 with h9 | h9
        · omega
        · rw [h'] at h9; omega
section MN
variable {d : Nat} {M M' : Mem} {K : KK} {Q : RR → Mem → KK → Prop} {r p : Nat} {c s : Mem} {L : LC} {dr : Int}
theorem g195 {v : Int} (hK : K.1 = 923) (hX : FX M) (hr : isO 923 r 20 = true) (hz : L27 r) (h : v = (p : Int) ∧ SM M r c s dr ∧ LM M L ∧ p < nSt c) (k : ∀ M', FX M' → FrV M M' → Q (.inl (some (vI (whN c s L p (rainM c s dr))))) M' K) : Wm (d + 4) 195 [vR 440, vR r, vI v] M K Q := by
  obtain ⟨rfl, hs, hL, hp⟩ := h
  obtain ⟨hc, hw, hl, hlw, hd⟩ := hs
  have hp6 : p < 6 := by have := hw.n.1.2; omega
  obtain ⟨f0, f1, f2, f3⟩ := hl.1 p hp
  obtain ⟨w0, -⟩ := hlw.1 p hp
  unfold whN at k
  refine u195_0 hK hX hr hz ⟨bx0 hp6, fun h => ⟨bx0 hp6, bx6 hp6, c, s, dr, ⟨hc, hw, hl, hlw, hd⟩, bx12 hp6, bx18 hp6, c, L, p, ⟨rfl, hc, hw, hL, hp, ?_, ?_⟩, fun M1 x1 p1 => ?_⟩, fun h => ?_⟩
  · rw [ix0 hp6, f0] at h ⊢; rcases w0 with w0 | w0
    · exact absurd w0 h
    · exact w0.1
  · rw [ix0 hp6, f0] at h ⊢; rcases w0 with w0 | w0
    · exact absurd w0 h
    · exact w0.2
  · rw [ix0 hp6, f0] at h
    rw [if_neg h] at k
    rw [ix0 hp6, ix6 hp6, ix12 hp6, ix18 hp6, f0, f1, f2, f3, hl.2.1]
    exact k M1 x1 p1
  · rw [ix0 hp6, f0] at h
    rw [if_pos h] at k
    exact k M hX FrV.rf
theorem g197 {v : Int} {x : Int} (hK : K.1 = 923) (hX : FX M) (hr : isO 923 r 20 = true) (hz : L27 r) (h : v = (p : Int) ∧ SM M r c s dr ∧ p < nSt c ∧ 0 ≤ x ∧ x ≤ 12) (k : Q (.inl (some (vI (bI (roomS c s p x = true))))) M K) : Wm (d + 2) 197 [vR 440, vR r, vI v, vI x] M K Q := by
  obtain ⟨rfl, hs, hp, hx⟩ := h
  have hs' := hs
  obtain ⟨hc, hw, hl, hlw, hd⟩ := hs'
  obtain ⟨x, rfl⟩ : ∃ x' : Nat, x = (x' : Int) := ⟨x.toNat, by omega⟩
  have hp6 : 0 ≤ (p : Int) ∧ (p : Int) < 6 := by have := hw.n.1.2; omega
  have hyp := hw.y hp
  have hnc := hw.n.2.1
  have ec : M 444 0 = c 0 0 := hc.1 0 (by decide)
  have ey : w32 ((x : Int) + M (459 + Int.toNat (p : Int)) 0) = (x : Int) + c 2 p := by
    rw [Int.toNat_natCast, (hc.2.2.1 p (by have := hw.n.1; omega)).1, w32_id (by omega)]
  rw [bI_c (roomS_ly hw hlw hp)] at k
  refine u197_0 hK hX hr hz ⟨hp6, fun h => ?_, fun h => ?_⟩
  · rw [ey, ec] at h
    have loop : ∀ f i, i + f = (c 2 p).toNat → (∀ j : Nat, j < i → lyOn c s ((x + j : Nat) : Int) = -1 ∨ lyOn c s ((x + j : Nat) : Int) = (p : Int)) → Wp (d + 2) 197 24 [vR 440, vR r, vI (p : Int), vI (x : Int), vI ((x + i : Nat) : Int)] [] M K Q := by
      intro f
      induction f with
      | zero =>
        intro i hi hq
        have : i = (c 2 p).toNat := by omega
        subst this
        refine u197_24 hK hX hr hz ⟨hp6, fun _ => ?_, fun h9 => ?_⟩
        · rwa [bI_t ⟨h, hq⟩] at k
        · rw [ey] at h9; exact absurd (show (x : Int) + c 2 p ≤ ((x + (c 2 p).toNat : Nat) : Int) by omega) h9
      | succ f ih =>
        intro i hi hq
        have q1 : ¬ (x : Int) + c 2 p ≤ ((x + i : Nat) : Int) := by omega
        have q2 : w32 (((x + i : Nat) : Int) + 1) = ((x + (i + 1) : Nat) : Int) := by rw [w1 (by omega)]; omega
        have go : (lyOn c s ((x + i : Nat) : Int) = -1 ∨ lyOn c s ((x + i : Nat) : Int) = (p : Int)) → Wp (d + 2) 197 24 [vR 440, vR r, vI (p : Int), vI (x : Int), vI (w32 (((x + i : Nat) : Int) + 1))] [] M K Q := by
          intro h9
          rw [q2]
          refine ih (i + 1) (by omega) (fun j hj => ?_)
          by_cases hji : j = i
          · subst hji; exact h9
          · exact hq j (by omega)
        refine u197_24 hK hX hr hz ⟨hp6, fun h9 => ?_, fun _ => ⟨c, s, dr, hs, fun h1 => go (Or.inl h1), fun h1 => ⟨c, s, dr, hs, fun h2 => go (Or.inr h2), fun h2 => ?_⟩⟩⟩
        · rw [ey] at h9; exact absurd h9 q1
        · rw [bI_f] at k
          · exact k
          · rintro ⟨-, hh⟩
            rcases hh i (by omega) with h9 | h9
            · exact h1 h9
            · exact h2 h9
    exact loop (c 2 p).toNat 0 (by omega) (fun j hj => by omega)
  · rw [ey, ec] at h
    rwa [bI_f (fun hh => h hh.1)] at k
end MN
theorem u198_0 {d : Nat} {l1 : Nat} {M : Mem} {K : KK} {Q : RR → Mem → KK → Prop} (hK : K.1 = 923) (hX : FX M) (k1 : isO 923 l1 20 = true) (z1 : ln l1 = 27) (h : Wp (d + 5) 198 2 [vR 440, vR l1, vI (0 : Int)] [] M K Q) : Wp (d + 5) 198 0 [vR 440, vR l1, vU] [] M K Q := by
  refine r_iconst c198_0 ?_
  refine r_istore_n c198_1 (Nat.le_of_ble_eq_true rfl) ?_
  exact h
theorem u198_2 {d : Nat} {l1 : Nat} {l2 : Int} {M : Mem} {K : KK} {Q : RR → Mem → KK → Prop} (hK : K.1 = 923) (hX : FX M) (k1 : isO 923 l1 20 = true) (z1 : ln l1 = 27) (h : ((M 444 1) ≤ l2 → Wp (d + 5) 198 43 [vR 440, vR l1, vI (0 : Int)] [] M K Q) ∧ (¬ ((M 444 1) ≤ l2) → (0 ≤ (w32 ((6 : Int) + l2)) ∧ (w32 ((6 : Int) + l2)) < (27 : Int)) ∧ ∃ c3 : Mem, ∃ s4 : Mem, ∃ L5 : LC, ∃ p6 : Nat, ∃ dr7 : Int, (l2 = (p6 : Int) ∧ SM M l1 c3 s4 dr7 ∧ LM M L5 ∧ p6 < nSt c3) ∧ (∀ (M11 : Mem), FX M11 → FrV M M11 → (0 ≤ (w32 ((6 : Int) + l2)) ∧ (w32 ((6 : Int) + l2)) < (27 : Int)) ∧ Wp (d + 5) 198 2 [vR 440, vR l1, vI (w32 (l2 + 1))] [] (mset M11 l1 (Int.toNat (w32 ((6 : Int) + l2))) (max (0 : Int) (w32 ((M l1 (Int.toNat (w32 ((6 : Int) + l2)))) - (whN c3 s4 L5 p6 (rainM c3 s4 dr7)))))) K Q))) : Wp (d + 5) 198 2 [vR 440, vR l1, vI l2] [] M K Q := by
  refine r_iload_n c198_2 rfl ?_
  refine r_aload_n c198_3 rfl ?_
  refine r_getR c198_4 (oK hK o440) (FX.get (b := 444) hX (by decide) (by decide +kernel) (by decide)) (by decide) ?_
  refine r_iconst c198_7 ?_
  refine r_iae c198_8 (oK hK o444) (bd l444 (by decide)) rfl ?_
  refine r_icmpP (P := (M 444 1) ≤ l2) c198_9 rfl (fun hc1 => ?_) (fun hc1 => ?_)
  · replace h := h.1 hc1
    refine r_iconst c198_41 ?_
    refine r_istore_n c198_42 (Nat.le_of_ble_eq_true rfl) ?_
    exact h
  · replace h := h.2 hc1
    refine r_aload_n c198_12 rfl ?_
    refine r_bipush c198_13 ?_
    refine r_iload_n c198_15 rfl ?_
    refine r_iadd c198_16 ?_
    refine r_iconst c198_17 ?_
    refine r_aload_n c198_18 rfl ?_
    refine r_bipush c198_19 ?_
    refine r_iload_n c198_21 rfl ?_
    refine r_iadd c198_22 ?_
    obtain ⟨s2, h⟩ := h
    refine r_iae c198_23 (oK hK k1) (bd z1 s2) rfl ?_
    refine r_aload_n c198_24 rfl ?_
    refine r_aload_n c198_25 rfl ?_
    refine r_iload_n c198_26 rfl ?_
    obtain ⟨c3, h⟩ := h
    obtain ⟨s4, h⟩ := h
    obtain ⟨L5, h⟩ := h
    obtain ⟨p6, h⟩ := h
    obtain ⟨dr7, h⟩ := h
    obtain ⟨p8, h⟩ := h
    refine r_call c198_27 rfl rfl (Nat.le_of_ble_eq_true rfl) (okc_r rfl rfl (oK hK o440)) (g195 hK hX k1 z1 p8 (fun M11 x9 p10 => Bk_v ?_))
    replace h := h M11 x9 p10
    refine r_isub c198_30 ?_
    refine r_call c198_31 rfl rfl (Nat.le_of_ble_eq_true rfl) (okc_s rfl rfl rfl) (g155 hK x9  (Bk_v ?_))
    obtain ⟨s12, h⟩ := h
    refine r_ias c198_34 (oK hK k1) (bd z1 s12) ?_
    have x13 := FX.set (v := (max (0 : Int) (w32 ((M l1 (Int.toNat (w32 ((6 : Int) + l2)))) - (whN c3 s4 L5 p6 (rainM c3 s4 dr7)))))) (a := l1) (k := (Int.toNat (w32 ((6 : Int) + l2)))) x9 (nfa k1 _)
    refine r_iinc c198_35 rfl ?_
    refine r_goto c198_38 ?_
    exact h
theorem u198_43 {d : Nat} {l1 : Nat} {l2 : Int} {M : Mem} {K : KK} {Q : RR → Mem → KK → Prop} (hK : K.1 = 923) (hX : FX M) (k1 : isO 923 l1 20 = true) (z1 : ln l1 = 27) (h : ((M 444 1) ≤ l2 → Q (.inl none) (mset M l1 24 (w32 ((M l1 24) + (1 : Int)))) K) ∧ (¬ ((M 444 1) ≤ l2) → (0 ≤ (w32 ((12 : Int) + l2)) ∧ (w32 ((12 : Int) + l2)) < (27 : Int)) ∧ (0 ≤ (w32 ((18 : Int) + l2)) ∧ (w32 ((18 : Int) + l2)) < (27 : Int)) ∧ Wp (d + 5) 198 43 [vR 440, vR l1, vI (w32 (l2 + 1))] [] (mset (mset M l1 (Int.toNat (w32 ((12 : Int) + l2))) (0 : Int)) l1 (Int.toNat (w32 ((18 : Int) + l2))) (0 : Int)) K Q)) : Wp (d + 5) 198 43 [vR 440, vR l1, vI l2] [] M K Q := by
  refine r_iload_n c198_43 rfl ?_
  refine r_aload_n c198_44 rfl ?_
  refine r_getR c198_45 (oK hK o440) (FX.get (b := 444) hX (by decide) (by decide +kernel) (by decide)) (by decide) ?_
  refine r_iconst c198_48 ?_
  refine r_iae c198_49 (oK hK o444) (bd l444 (by decide)) rfl ?_
  refine r_icmpP (P := (M 444 1) ≤ l2) c198_50 rfl (fun hc1 => ?_) (fun hc1 => ?_)
  · replace h := h.1 hc1
    refine r_aload_n c198_73 rfl ?_
    refine r_bipush c198_74 ?_
    refine r_dup2 c198_76 ?_
    refine r_iae c198_77 (oK hK k1) (bd z1 (by decide)) rfl ?_
    refine r_iconst c198_78 ?_
    refine r_iadd c198_79 ?_
    refine r_ias c198_80 (oK hK k1) (bd z1 (by decide)) ?_
    have x2 := FX.set (v := (w32 ((M l1 24) + (1 : Int)))) (a := l1) (k := 24) hX (nfa k1 _)
    exact r_ret c198_81 h
  · replace h := h.2 hc1
    refine r_aload_n c198_53 rfl ?_
    refine r_bipush c198_54 ?_
    refine r_iload_n c198_56 rfl ?_
    refine r_iadd c198_57 ?_
    refine r_iconst c198_58 ?_
    obtain ⟨s3, h⟩ := h
    refine r_ias c198_59 (oK hK k1) (bd z1 s3) ?_
    have x4 := FX.set (v := (0 : Int)) (a := l1) (k := (Int.toNat (w32 ((12 : Int) + l2)))) hX (nfa k1 _)
    refine r_aload_n c198_60 rfl ?_
    refine r_bipush c198_61 ?_
    refine r_iload_n c198_63 rfl ?_
    refine r_iadd c198_64 ?_
    refine r_iconst c198_65 ?_
    obtain ⟨s5, h⟩ := h
    refine r_ias c198_66 (oK hK k1) (bd z1 s5) ?_
    have x6 := FX.set (v := (0 : Int)) (a := l1) (k := (Int.toNat (w32 ((18 : Int) + l2)))) x4 (nfa k1 _)
    refine r_iinc c198_67 rfl ?_
    refine r_goto c198_70 ?_
    exact h
theorem u199_0 {d : Nat} {l1 : Nat} {l2 : Int} {M : Mem} {K : KK} {Q : RR → Mem → KK → Prop} (hK : K.1 = 923) (hX : FX M) (k1 : isO 923 l1 20 = true) (z1 : ln l1 = 27) (h : ∃ c1 : Mem, ∃ s2 : Mem, ∃ dr3 : Int, SM M l1 c1 s2 dr3 ∧ (¬ (lyOn c1 s2 l2) = (-1 : Int) → (0 ≤ (w32 ((6 : Int) + (lyOn c1 s2 l2))) ∧ (w32 ((6 : Int) + (lyOn c1 s2 l2))) < (27 : Int)) ∧ (0 ≤ (w32 ((6 : Int) + (lyOn c1 s2 l2))) ∧ (w32 ((6 : Int) + (lyOn c1 s2 l2))) < (27 : Int)) ∧ Q (.inl (some (vI (1 : Int)))) (mset M l1 (Int.toNat (w32 ((6 : Int) + (lyOn c1 s2 l2)))) (min (99 : Int) (w32 ((M l1 (Int.toNat (w32 ((6 : Int) + (lyOn c1 s2 l2))))) + (5 : Int))))) K) ∧ ((lyOn c1 s2 l2) = (-1 : Int) → Q (.inl (some (vI (0 : Int)))) M K)) : Wp (d + 2) 199 0 [vR 440, vR l1, vI l2, vU] [] M K Q := by
  refine r_aload_n c199_0 rfl ?_
  refine r_aload_n c199_1 rfl ?_
  refine r_iload_n c199_2 rfl ?_
  obtain ⟨c1, h⟩ := h
  obtain ⟨s2, h⟩ := h
  obtain ⟨dr3, h⟩ := h
  obtain ⟨p4, h⟩ := h
  refine r_call c199_3 rfl rfl (Nat.le_of_ble_eq_true rfl) (okc_r rfl rfl (oK hK o440)) (g196 hK hX k1 z1 p4 (Bk_v ?_))
  refine r_istore_n c199_6 (Nat.le_of_ble_eq_true rfl) ?_
  refine r_iload_n c199_7 rfl ?_
  refine r_iconst c199_8 ?_
  refine r_icmpP (P := ¬ (lyOn c1 s2 l2) = (-1 : Int)) c199_9 rfl (fun hc5 => ?_) (fun hc5 => ?_)
  · replace h := h.1 hc5
    refine r_aload_n c199_14 rfl ?_
    refine r_bipush c199_15 ?_
    refine r_iload_n c199_17 rfl ?_
    refine r_iadd c199_18 ?_
    refine r_bipush c199_19 ?_
    refine r_aload_n c199_21 rfl ?_
    refine r_bipush c199_22 ?_
    refine r_iload_n c199_24 rfl ?_
    refine r_iadd c199_25 ?_
    obtain ⟨s7, h⟩ := h
    refine r_iae c199_26 (oK hK k1) (bd z1 s7) rfl ?_
    refine r_iconst c199_27 ?_
    refine r_iadd c199_28 ?_
    refine r_call c199_29 rfl rfl (Nat.le_of_ble_eq_true rfl) (okc_s rfl rfl rfl) (g154 hK hX  (Bk_v ?_))
    obtain ⟨s8, h⟩ := h
    refine r_ias c199_32 (oK hK k1) (bd z1 s8) ?_
    have x9 := FX.set (v := (min (99 : Int) (w32 ((M l1 (Int.toNat (w32 ((6 : Int) + (lyOn c1 s2 l2))))) + (5 : Int))))) (a := l1) (k := (Int.toNat (w32 ((6 : Int) + (lyOn c1 s2 l2))))) hX (nfa k1 _)
    refine r_iconst c199_33 ?_
    exact r_iret c199_34 (by decide) h
  · have hc6 := Classical.not_not.mp hc5
    replace h := h.2 hc6
    refine r_iconst c199_12 ?_
    exact r_iret c199_13 (by decide) h
