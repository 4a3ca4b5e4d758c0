/-! nothing told; the past -/
theorem g150z {d : Nat} {M : Mem} {K : KK} {Q : RR → Mem → KK → Prop} (hK : K.1 = 923) (hX : FX M) (_ : True) (k : ∀ M', FX M' → (Fr1 443 M M' ∧ CN M' c00) → Q (.inl none) M' K) : Wm d 150 [vR 440] M K Q := by
  have no443 : ∀ k, fxT 443 k = 0 := fun k => nfa (by decide +kernel) k
  refine u150_0 hK hX ?_
  have loop : ∀ f i, i + f = 4 → ∀ M1, FX M1 → Fr1 443 M M1 → (∀ j, j < i → M1 443 j = 0) → Wp d 150 2 [vR 440, vI (i : Int)] [] M1 K Q := by
    intro f
    induction f with
    | zero =>
      intro i hi M1 x1 f1 h1
      refine u150_2 hK x1 ⟨fun _ => k _ ((x1.set (no443 _)).set (no443 _)) ⟨f1.up.up, fun j hj => ?_, fun j hj => ?_, fun j hj => ?_, fun j hj => ?_, fun j hj => ?_⟩, fun h => absurd h (by omega)⟩
      · simp only [mset, c00]
        by_cases h5 : j = 5
        · simp [h5]
        · by_cases h4 : j = 4
          · simp [h4]
          · simp [h4, h5]; exact h1 j (by omega)
      · simp [c00] at hj; omega
      · simp [c00] at hj; omega
      · simp [c00] at hj; omega
      · simp [c00] at hj; omega
    | succ f ih =>
      intro i hi M1 x1 f1 h1
      refine u150_2 hK x1 ⟨fun h => absurd h (by omega), fun _ => ⟨⟨by omega, by omega⟩, ?_⟩⟩
      rw [w1 (by omega), Int.toNat_natCast]
      refine ih (i + 1) (by omega) _ (x1.set (no443 _)) f1.up (fun j hj => ?_)
      by_cases hji : j = i
      · subst hji; rw [ms_eq]
      · rw [ms_nk hji]; exact h1 j (by omega)
  exact loop 4 0 rfl M hX (fun b k _ => rfl) (fun j hj => absurd hj (by omega))
theorem pPrg_51 {B : BY} {n : Nat} {nC nS : Int} (hn : n ≤ 150) (h0 : STw B n (.inl (sk B n 0))) : (pPrg B n nC nS).2.1 ≤ 51 :=
  ((ssL_g (top := true) (stF_g (nC := nC) (nS := nS) hn (fun S h => by cases h; exact pSt_g hn 5)) stF_FL 150) (.inl (sk B n 0), (0, fun _ _ => 0)) h0 ⟨fun p h => by dsimp only; omega, by dsimp only; omega⟩).2.1.2
theorem u60_0 {d : Nat} {l0 : Nat} {l1 : Nat} {M : Mem} {K : KK} {Q : RR → Mem → KK → Prop} (hK : K.1 = 923) (hX : FX M) (k0 : isO 923 l0 6 = true) (k1 : isO 923 l1 3 = true) (h : ((16 : Int) ≤ (M l0 1) → Q (.inl none) M K) ∧ (¬ ((16 : Int) ≤ (M l0 1)) → (0 ≤ (M l0 1) ∧ (M l0 1) < (16 : Int)) ∧ ∃ c4 : Mem, ∃ s5 : Mem, (((l0 + 2 + 5 * Int.toNat (M l0 1)) + 4 < l1 ∨ l1 + 4 < (l0 + 2 + 5 * Int.toNat (M l0 1))) ∧ CW c4 ∧ LK M l1 c4 s5) ∧ (∀ (M9 : Mem), FX M9 → (FrI (l0 + 2 + 5 * Int.toNat (M l0 1)) M M9 ∧ LK M9 (l0 + 2 + 5 * Int.toNat (M l0 1)) c4 s5 ∧ (∀ b j, l1 ≤ b → b ≤ l1 + 4 → M9 b j = M b j)) → Q (.inl none) (mset M9 l0 1 (w32 ((M9 l0 1) + (1 : Int)))) K))) : Wp (d + 1) 60 0 [vR l0, vR l1] [] M K Q := by
  refine r_aload_n c60_0 rfl ?_
  refine r_getIe c60_1 (oK hK k0) rfl ?_
  refine r_aload_n c60_4 rfl ?_
  refine r_getR c60_5 (oK hK k0) (fx6_0 hX k0) (by omega) ?_
  refine r_alene c60_8 (mal (q6_0 k0) rfl hK) (z6_0 k0) ?_
  refine r_icmpP (P := (16 : Int) ≤ (M l0 1)) c60_9 rfl (fun hc1 => ?_) (fun hc1 => ?_)
  · replace h := h.1 hc1
    exact r_ret c60_35 h
  · replace h := h.2 hc1
    refine r_aload_n c60_12 rfl ?_
    refine r_getR c60_13 (oK hK k0) (fx6_0 hX k0) (by omega) ?_
    refine r_aload_n c60_16 rfl ?_
    refine r_getIe c60_17 (oK hK k0) rfl ?_
    obtain ⟨s2, h⟩ := h
    have k3 := rol k0 s2
    refine r_aa c60_20 (mrw3 (q6_0 k0) hK) (bd (z6_0 k0) s2) (rfl_ hX k0 s2) (by omega) ?_
    refine r_aload_n c60_21 rfl ?_
    obtain ⟨c4, h⟩ := h
    obtain ⟨s5, h⟩ := h
    obtain ⟨p6, h⟩ := h
    refine r_call c60_22 rfl rfl (Nat.le_of_ble_eq_true rfl) (okc_r rfl rfl (oK hK k3)) (g30 hK hX k3 k1 p6 (fun M9 x7 p8 => Bk_n ?_))
    replace h := h M9 x7 p8
    refine r_aload_n c60_25 rfl ?_
    refine r_dupr c60_26 ?_
    refine r_getIe c60_27 (oK hK k0) rfl ?_
    refine r_iconst c60_30 ?_
    refine r_iadd c60_31 ?_
    refine r_putI c60_32 (oK hK k0) ?_
    have x10 := FX.set (v := (w32 ((M9 l0 1) + (1 : Int)))) (a := l0) (k := 1) x7 (nf6 k0 (by decide))
    exact r_ret c60_35 h
theorem u61_0 {d : Nat} {l0 : Nat} {l1 : Nat} {M : Mem} {K : KK} {Q : RR → Mem → KK → Prop} (hK : K.1 = 923) (hX : FX M) (k0 : isO 923 l0 6 = true) (k1 : isO 923 l1 3 = true) (h : ((0 : Int) < (M l0 1) → (0 ≤ (w32 ((M l0 1) - (1 : Int))) ∧ (w32 ((M l0 1) - (1 : Int))) < (16 : Int)) ∧ ∃ c5 : Mem, ∃ s6 : Mem, ((l1 + 4 < (l0 + 2 + 5 * Int.toNat (w32 ((M l0 1) - (1 : Int)))) ∨ (l0 + 2 + 5 * Int.toNat (w32 ((M l0 1) - (1 : Int)))) + 4 < l1) ∧ CW c5 ∧ LK (mset M l0 1 (w32 ((M l0 1) - (1 : Int)))) (l0 + 2 + 5 * Int.toNat (w32 ((M l0 1) - (1 : Int)))) c5 s6) ∧ (∀ (M10 : Mem), FX M10 → (FrI l1 (mset M l0 1 (w32 ((M l0 1) - (1 : Int)))) M10 ∧ LK M10 l1 c5 s6 ∧ (∀ b j, (l0 + 2 + 5 * Int.toNat (w32 ((M l0 1) - (1 : Int)))) ≤ b → b ≤ (l0 + 2 + 5 * Int.toNat (w32 ((M l0 1) - (1 : Int)))) + 4 → M10 b j = (mset M l0 1 (w32 ((M l0 1) - (1 : Int)))) b j)) → Q (.inl (some (vI (1 : Int)))) M10 K)) ∧ (¬ ((0 : Int) < (M l0 1)) → Q (.inl (some (vI (0 : Int)))) M K)) : Wp (d + 1) 61 0 [vR l0, vR l1] [] M K Q := by
  refine r_aload_n c61_0 rfl ?_
  refine r_getIe c61_1 (oK hK k0) rfl ?_
  refine r_ifP (P := (0 : Int) < (M l0 1)) c61_4 rfl (fun hc1 => ?_) (fun hc1 => ?_)
  · replace h := h.1 hc1
    refine r_aload_n c61_9 rfl ?_
    refine r_dupr c61_10 ?_
    refine r_getIe c61_11 (oK hK k0) rfl ?_
    refine r_iconst c61_14 ?_
    refine r_isub c61_15 ?_
    refine r_putI c61_16 (oK hK k0) ?_
    have x2 := FX.set (v := (w32 ((M l0 1) - (1 : Int)))) (a := l0) (k := 1) hX (nf6 k0 (by decide))
    refine r_aload_n c61_19 rfl ?_
    refine r_aload_n c61_20 rfl ?_
    refine r_getR c61_21 (oK hK k0) (fx6_0 x2 k0) (by omega) ?_
    refine r_aload_n c61_24 rfl ?_
    refine r_getIe c61_25 (oK hK k0) ms_eq ?_
    obtain ⟨s3, h⟩ := h
    have k4 := rol k0 s3
    refine r_aa c61_28 (mrw3 (q6_0 k0) hK) (bd (z6_0 k0) s3) (rfl_ x2 k0 s3) (by omega) ?_
    obtain ⟨c5, h⟩ := h
    obtain ⟨s6, h⟩ := h
    obtain ⟨p7, h⟩ := h
    refine r_call c61_29 rfl rfl (Nat.le_of_ble_eq_true rfl) (okc_r rfl rfl (oK hK k1)) (g30 hK x2 k1 k4 p7 (fun M10 x8 p9 => Bk_n ?_))
    replace h := h M10 x8 p9
    refine r_iconst c61_32 ?_
    exact r_iret c61_33 (by decide) h
  · replace h := h.2 hc1
    refine r_iconst c61_7 ?_
    exact r_iret c61_8 (by decide) h
theorem u62_0 {d : Nat} {l0 : Nat} {l1 : Nat} {M : Mem} {K : KK} {Q : RR → Mem → KK → Prop} (hK : K.1 = 923) (hX : FX M) (k0 : isO 923 l0 6 = true) (k1 : isO 923 l1 6 = true) (h : Wp (d + 1) 62 2 [vR l0, vR l1, vI (0 : Int)] [] M K Q) : Wp (d + 1) 62 0 [vR l0, vR l1, vU] [] M K Q := by
  refine r_iconst c62_0 ?_
  refine r_istore_n c62_1 (Nat.le_of_ble_eq_true rfl) ?_
  exact h
theorem u62_2 {d : Nat} {l0 : Nat} {l1 : Nat} {l2 : Int} {M : Mem} {K : KK} {Q : RR → Mem → KK → Prop} (hK : K.1 = 923) (hX : FX M) (k0 : isO 923 l0 6 = true) (k1 : isO 923 l1 6 = true) (h : ((M l1 1) ≤ l2 → Q (.inl none) (mset M l0 1 (M l1 1)) K) ∧ (¬ ((M l1 1) ≤ l2) → ((16 : Int) ≤ l2 → Q (.inl none) (mset M l0 1 (M l1 1)) K) ∧ (¬ ((16 : Int) ≤ l2) → (0 ≤ l2 ∧ l2 < (16 : Int)) ∧ (0 ≤ l2 ∧ l2 < (16 : Int)) ∧ ∃ c9 : Mem, ∃ s10 : Mem, (((l0 + 2 + 5 * Int.toNat l2) + 4 < (l1 + 2 + 5 * Int.toNat l2) ∨ (l1 + 2 + 5 * Int.toNat l2) + 4 < (l0 + 2 + 5 * Int.toNat l2)) ∧ CW c9 ∧ LK M (l1 + 2 + 5 * Int.toNat l2) c9 s10) ∧ (∀ (M14 : Mem), FX M14 → (FrI (l0 + 2 + 5 * Int.toNat l2) M M14 ∧ LK M14 (l0 + 2 + 5 * Int.toNat l2) c9 s10 ∧ (∀ b j, (l1 + 2 + 5 * Int.toNat l2) ≤ b → b ≤ (l1 + 2 + 5 * Int.toNat l2) + 4 → M14 b j = M b j)) → Wp (d + 1) 62 2 [vR l0, vR l1, vI (w32 (l2 + 1))] [] M14 K Q)))) : Wp (d + 1) 62 2 [vR l0, vR l1, vI l2] [] M K Q := by
  refine r_iload_n c62_2 rfl ?_
  refine r_aload_n c62_3 rfl ?_
  refine r_getIe c62_4 (oK hK k1) rfl ?_
  refine r_icmpP (P := (M l1 1) ≤ l2) c62_7 rfl (fun hc1 => ?_) (fun hc1 => ?_)
  · replace h := h.1 hc1
    refine r_aload_n c62_40 rfl ?_
    refine r_aload_n c62_41 rfl ?_
    refine r_getIe c62_42 (oK hK k1) rfl ?_
    refine r_putI c62_45 (oK hK k0) ?_
    have x2 := FX.set (v := (M l1 1)) (a := l0) (k := 1) hX (nf6 k0 (by decide))
    exact r_ret c62_48 h
  · replace h := h.2 hc1
    refine r_iload_n c62_10 rfl ?_
    refine r_aload_n c62_11 rfl ?_
    refine r_getR c62_12 (oK hK k0) (fx6_0 hX k0) (by omega) ?_
    refine r_alene c62_15 (mal (q6_0 k0) rfl hK) (z6_0 k0) ?_
    refine r_icmpP (P := (16 : Int) ≤ l2) c62_16 rfl (fun hc3 => ?_) (fun hc3 => ?_)
    · replace h := h.1 hc3
      refine r_aload_n c62_40 rfl ?_
      refine r_aload_n c62_41 rfl ?_
      refine r_getIe c62_42 (oK hK k1) rfl ?_
      refine r_putI c62_45 (oK hK k0) ?_
      have x4 := FX.set (v := (M l1 1)) (a := l0) (k := 1) hX (nf6 k0 (by decide))
      exact r_ret c62_48 h
    · replace h := h.2 hc3
      refine r_aload_n c62_19 rfl ?_
      refine r_getR c62_20 (oK hK k0) (fx6_0 hX k0) (by omega) ?_
      refine r_iload_n c62_23 rfl ?_
      obtain ⟨s5, h⟩ := h
      have k6 := rol k0 s5
      refine r_aa c62_24 (mrw3 (q6_0 k0) hK) (bd (z6_0 k0) s5) (rfl_ hX k0 s5) (by omega) ?_
      refine r_aload_n c62_25 rfl ?_
      refine r_getR c62_26 (oK hK k1) (fx6_0 hX k1) (by omega) ?_
      refine r_iload_n c62_29 rfl ?_
      obtain ⟨s7, h⟩ := h
      have k8 := rol k1 s7
      refine r_aa c62_30 (mrw3 (q6_0 k1) hK) (bd (z6_0 k1) s7) (rfl_ hX k1 s7) (by omega) ?_
      obtain ⟨c9, h⟩ := h
      obtain ⟨s10, h⟩ := h
      obtain ⟨p11, h⟩ := h
      refine r_call c62_31 rfl rfl (Nat.le_of_ble_eq_true rfl) (okc_r rfl rfl (oK hK k6)) (g30 hK hX k6 k8 p11 (fun M14 x12 p13 => Bk_n ?_))
      replace h := h M14 x12 p13
      refine r_iinc c62_34 rfl ?_
      refine r_goto c62_37 ?_
      exact h
/-- works that can be undone -/
def PH (M : Mem) (pa : Nat) (c : Mem) (H : List Mem) : Prop := M pa 1 = (H.length : Int) ∧ H.length ≤ 16 ∧ ∀ i, i < H.length → LK M (pa + 2 + 5 * i) c (H.getD i c00)
def FrP6 (pa : Nat) (M M' : Mem) : Prop := ∀ b k, ¬ scL b → ¬ (pa ≤ b ∧ b ≤ pa + 81) → M' b k = M b k
section PA6
variable {d : Nat} {M M' : Mem} {K : KK} {Q : RR → Mem → KK → Prop} {pa pb a : Nat} {c s : Mem} {H : List Mem}
theorem LK.fr (hf : ∀ b j, a ≤ b → b ≤ a + 4 → M' b j = M b j) (h : LK M a c s) : LK M' a c s := by
  refine ⟨fun q hq => ?_, ?_, ?_⟩
  · rw [hf _ _ (by omega) (by omega), hf _ _ (by omega) (by omega), hf _ _ (by omega) (by omega), hf _ _ (by omega) (by omega)]; exact h.1 q hq
  · rw [hf _ _ (by omega) (by omega)]; exact h.2.1
  · rw [hf _ _ (by omega) (by omega)]; exact h.2.2
theorem PH.fr (hf : ∀ b j, pa ≤ b → b ≤ pa + 81 → M' b j = M b j) (h : PH M pa c H) : PH M' pa c H :=
  ⟨(hf _ _ (by omega) (by omega)).trans h.1, h.2.1, fun i hi => (h.2.2 i hi).fr (fun b j h1 h2 => hf b j (by omega) (by have := h.2.1; omega))⟩
theorem g60 (hK : K.1 = 923) (hX : FX M) (hp : isO 923 pa 6 = true) (ha : isO 923 a 3 = true) (h : PH M pa c H ∧ CW c ∧ LK M a c s ∧ (a + 4 < pa ∨ pa + 81 < a)) (k : ∀ M', FX M' → (FrP6 pa M M' ∧ PH M' pa c (if H.length < 16 then H ++ [s] else H)) → Q (.inl none) M' K) : Wm (d + 1) 60 [vR pa, vR a] M K Q := by
  obtain ⟨⟨e1, h16, hr⟩, hw, hl, hd⟩ := h
  have hg := rg6 hp
  refine u60_0 hK hX hp ha ⟨fun h => ?_, fun h => ?_⟩
  · rw [if_neg (by omega)] at k
    exact k M hX ⟨fun _ _ _ _ => rfl, e1, h16, hr⟩
  · have hlt : H.length < 16 := by omega
    rw [if_pos hlt] at k
    rw [e1, Int.toNat_natCast]
    refine ⟨by omega, c, s, ⟨by omega, hw, hl⟩, fun M1 x1 ⟨f1, l1, _⟩ => ?_⟩
    have e1' : M1 pa 1 = (H.length : Int) := (f1 pa 1 (by unfold scL; omega) (by omega)).trans e1
    rw [e1', w1 (by omega)]
    refine k _ (x1.set (nf6 hp (by decide))) ⟨fun b j h1 h2 => ?_, ?_, ?_, fun i hi => ?_⟩
    · rw [ms_na (by omega)]; exact f1 b j h1 (by omega)
    · rw [ms_eq]; simp
    · simp; omega
    · simp at hi
      refine LK.fr (M := M1) (fun b j h1 h2 => ms_na (by omega)) ?_
      by_cases hih : i = H.length
      · subst hih
        have : (H ++ [s]).getD H.length c00 = s := by simp
        rw [this]; exact l1
      · have : (H ++ [s]).getD i c00 = H.getD i c00 := by
          have hi9 : i < H.length := by omega
          simp [List.getD, List.getElem?_append_left hi9]
        rw [this]
        exact (hr i (by omega)).fr (fun b j h1 h2 => f1 b j (by unfold scL; omega) (by omega))
theorem g61 (hK : K.1 = 923) (hX : FX M) (hp : isO 923 pa 6 = true) (ha : isO 923 a 3 = true) (h : PH M pa c H ∧ CW c ∧ (a + 4 < pa ∨ pa + 81 < a)) (k : ∀ M', FX M' → ((∀ b j, ¬ scL b → ¬ (b = pa ∧ j = 1) → ¬ (a ≤ b ∧ b ≤ a + 4) → M' b j = M b j) ∧ PH M' pa c H.dropLast ∧ (H ≠ [] → LK M' a c (H.getD (H.length - 1) c00)) ∧ (H = [] → M' = M)) → Q (.inl (some (vI (bI (H ≠ []))))) M' K) : Wm (d + 1) 61 [vR pa, vR a] M K Q := by
  obtain ⟨⟨e1, h16, hr⟩, hw, hd⟩ := h
  have hg := rg6 hp
  refine u61_0 hK hX hp ha ⟨fun h => ?_, fun h => ?_⟩
  · have hne : H ≠ [] := by rintro rfl; simp at e1; omega
    have hpos : 0 < H.length := by omega
    rw [e1, w32_id (z := (H.length : Int) - 1) (by omega)]
    have et : Int.toNat ((H.length : Int) - 1) = H.length - 1 := by omega
    rw [et]
    have hlast := hr (H.length - 1) (by omega)
    refine ⟨by omega, c, H.getD (H.length - 1) c00, ⟨by omega, hw, hlast.fr (fun b j h1 h2 => ms_na (by omega))⟩, fun M1 x1 ⟨f1, l1, r1⟩ => ?_⟩
    rw [bI_t hne] at k
    have hf : ∀ b j, ¬ scL b → ¬ (b = pa ∧ j = 1) → ¬ (a ≤ b ∧ b ≤ a + 4) → M1 b j = M b j := by
      intro b j h1 h2 h3
      rw [f1 b j h1 h3]
      unfold mset; rw [if_neg h2]
    refine k M1 x1 ⟨hf, ⟨?_, by simp; omega, fun i hi => ?_⟩, fun _ => l1, fun h => absurd h hne⟩
    · rw [f1 pa 1 (by unfold scL; omega) (by omega), ms_eq]; simp; omega
    · simp at hi
      have : H.dropLast.getD i c00 = H.getD i c00 := by
        have h1 : i < H.dropLast.length := by simp; omega
        simp only [List.getD, List.getElem?_eq_getElem h1, List.getElem?_eq_getElem (show i < H.length by omega), List.getElem_dropLast]
      rw [this]
      exact (hr i (by omega)).fr (fun b j h1 h2 => hf b j (by unfold scL; omega) (by omega) (by omega))
  · have he : H = [] := by
      cases H with
      | nil => rfl
      | cons x t => simp at e1; omega
    rw [bI_f (fun h => h he)] at k
    subst he
    exact k M hX ⟨fun _ _ _ _ _ => rfl, ⟨e1, h16, hr⟩, fun h => absurd rfl h, fun _ => rfl⟩
theorem g62 (hK : K.1 = 923) (hX : FX M) (hp : isO 923 pa 6 = true) (hq : isO 923 pb 6 = true) (h : PH M pb c H ∧ CW c ∧ pa ≠ pb) (k : ∀ M', FX M' → (FrP6 pa M M' ∧ PH M' pa c H) → Q (.inl none) M' K) : Wm (d + 1) 62 [vR pa, vR pb] M K Q := by
  obtain ⟨h0, hw, hne⟩ := h
  obtain ⟨e1, h16, hr⟩ := h0
  have hg := rg6 hp
  have hg2 := rg6 hq
  refine u62_0 hK hX hp hq ?_
  have loop : ∀ f i, i + f = H.length → ∀ M1, FX M1 → FrP6 pa M M1 → (∀ j, j < i → LK M1 (pa + 2 + 5 * j) c (H.getD j c00)) → Wp (d + 1) 62 2 [vR pa, vR pb, vI (i : Int)] [] M1 K Q := by
    intro f
    induction f with
    | zero =>
      intro i hi M1 x1 f1 h1
      have e1' : M1 pb 1 = (H.length : Int) := (f1 pb 1 (by unfold scL; omega) (by omega)).trans e1
      refine u62_2 hK x1 hp hq ⟨fun _ => ?_, fun h => absurd h (by omega)⟩
      rw [e1']
      refine k _ (x1.set (nf6 hp (by decide))) ⟨fun b j h2 h3 => ?_, ms_eq, h16, fun j hj => ?_⟩
      · rw [ms_na (by omega)]; exact f1 b j h2 h3
      · exact (h1 j (by omega)).fr (fun b j h2 h3 => ms_na (by omega))
    | succ f ih =>
      intro i hi M1 x1 f1 h1
      have e1' : M1 pb 1 = (H.length : Int) := (f1 pb 1 (by unfold scL; omega) (by omega)).trans e1
      refine u62_2 hK x1 hp hq ⟨fun h => absurd h (by omega), fun _ => ⟨fun h => absurd h (by omega), fun _ => ⟨by omega, by omega, ?_⟩⟩⟩
      rw [Int.toNat_natCast]
      refine ⟨c, H.getD i c00, ⟨by omega, hw, (hr i (by omega)).fr (fun b j h2 h3 => f1 b j (by unfold scL; omega) (by omega))⟩, fun M2 x2 ⟨f2, l2, _⟩ => ?_⟩
      rw [w1 (by omega)]
      refine ih (i + 1) (by omega) M2 x2 (fun b j h2 h3 => (f2 b j h2 (by omega)).trans (f1 b j h2 h3)) (fun j hj => ?_)
      by_cases hji : j = i
      · subst hji; exact l2
      · exact (h1 j (by omega)).fr (fun b j' h2 h3 => f2 b j' (by unfold scL; omega) (by omega))
  exact loop H.length 0 (by omega) M hX (fun _ _ _ _ => rfl) (fun j hj => absurd hj (by omega))
end PA6
