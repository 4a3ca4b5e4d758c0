/-! sayings: the class -/
theorem u75_0 {d : Nat} {l0 : Nat} {M : Mem} {K : KK} {Q : RR → Mem → KK → Prop} (hK : K.1 = 923) (hX : FX M) (k0 : isO 923 l0 8 = true) (h : Q (.inl none) (mset (mset (mset M l0 0 (0 : Int)) l0 1 (0 : Int)) l0 2 (0 : Int)) K) : Wp d 75 0 [vR l0] [] M K Q := by
  refine r_aload_n c75_0 rfl ?_
  refine r_iconst c75_1 ?_
  refine r_putI c75_2 (oK hK k0) ?_
  have x1 := FX.set (v := (0 : Int)) (a := l0) (k := 0) hX (nf8 k0 (by decide))
  refine r_aload_n c75_5 rfl ?_
  refine r_iconst c75_6 ?_
  refine r_putI c75_7 (oK hK k0) ?_
  have x2 := FX.set (v := (0 : Int)) (a := l0) (k := 1) x1 (nf8 k0 (by decide))
  refine r_aload_n c75_10 rfl ?_
  refine r_iconst c75_11 ?_
  refine r_putI c75_12 (oK hK k0) ?_
  have x3 := FX.set (v := (0 : Int)) (a := l0) (k := 2) x2 (nf8 k0 (by decide))
  exact r_ret c75_15 h
theorem u77_0 {d : Nat} {l0 : Nat} {l1 : Int} {M : Mem} {K : KK} {Q : RR → Mem → KK → Prop} (hK : K.1 = 923) (hX : FX M) (k0 : isO 923 l0 8 = true) (h : (¬ (jand (jshr (jor (M l0 1) (M l0 2)) l1) (1 : Int)) = (1 : Int) → Q (.inl (some (vI (0 : Int)))) M K) ∧ ((jand (jshr (jor (M l0 1) (M l0 2)) l1) (1 : Int)) = (1 : Int) → Q (.inl (some (vI (1 : Int)))) M K)) : Wp d 77 0 [vR l0, vI l1] [] M K Q := by
  refine r_aload_n c77_0 rfl ?_
  refine r_getIe c77_1 (oK hK k0) rfl ?_
  refine r_aload_n c77_4 rfl ?_
  refine r_getIe c77_5 (oK hK k0) rfl ?_
  refine r_ior c77_8 ?_
  refine r_iload_n c77_9 rfl ?_
  refine r_ishr c77_10 ?_
  refine r_iconst c77_11 ?_
  refine r_iand c77_12 ?_
  refine r_iconst c77_13 ?_
  refine r_icmpP (P := ¬ (jand (jshr (jor (M l0 1) (M l0 2)) l1) (1 : Int)) = (1 : Int)) c77_14 rfl (fun hc1 => ?_) (fun hc1 => ?_)
  · replace h := h.1 hc1
    refine r_iconst c77_21 ?_
    exact r_iret c77_22 (by decide) h
  · have hc2 := Classical.not_not.mp hc1
    replace h := h.2 hc2
    refine r_iconst c77_17 ?_
    refine r_goto c77_18 ?_
    exact r_iret c77_22 (by decide) h
theorem u78_0 {d : Nat} {l0 : Nat} {l1 : Int} {M : Mem} {K : KK} {Q : RR → Mem → KK → Prop} (hK : K.1 = 923) (hX : FX M) (k0 : isO 923 l0 8 = true) (h : (¬ (jand (M l0 1) (jxor l1 (-1 : Int))) = (0 : Int) → Q (.inl (some (vI (0 : Int)))) M K) ∧ ((jand (M l0 1) (jxor l1 (-1 : Int))) = (0 : Int) → (¬ (jand (M l0 2) l1) = (0 : Int) → Q (.inl (some (vI (0 : Int)))) M K) ∧ ((jand (M l0 2) l1) = (0 : Int) → Q (.inl (some (vI (1 : Int)))) M K))) : Wp d 78 0 [vR l0, vI l1] [] M K Q := by
  refine r_aload_n c78_0 rfl ?_
  refine r_getIe c78_1 (oK hK k0) rfl ?_
  refine r_iload_n c78_4 rfl ?_
  refine r_iconst c78_5 ?_
  refine r_ixor c78_6 ?_
  refine r_iand c78_7 ?_
  refine r_ifP (P := ¬ (jand (M l0 1) (jxor l1 (-1 : Int))) = (0 : Int)) c78_8 rfl (fun hc1 => ?_) (fun hc1 => ?_)
  · replace h := h.1 hc1
    refine r_iconst c78_24 ?_
    exact r_iret c78_25 (by decide) h
  · have hc2 := Classical.not_not.mp hc1
    replace h := h.2 hc2
    refine r_aload_n c78_11 rfl ?_
    refine r_getIe c78_12 (oK hK k0) rfl ?_
    refine r_iload_n c78_15 rfl ?_
    refine r_iand c78_16 ?_
    refine r_ifP (P := ¬ (jand (M l0 2) l1) = (0 : Int)) c78_17 rfl (fun hc3 => ?_) (fun hc3 => ?_)
    · replace h := h.1 hc3
      refine r_iconst c78_24 ?_
      exact r_iret c78_25 (by decide) h
    · have hc4 := Classical.not_not.mp hc3
      replace h := h.2 hc4
      refine r_iconst c78_20 ?_
      refine r_goto c78_21 ?_
      exact r_iret c78_25 (by decide) h
section SA
variable {d : Nat} {M : Mem} {K : KK} {Q : RR → Mem → KK → Prop} {s : Nat}
theorem g75 (hK : K.1 = 923) (hX : FX M) (hs : isO 923 s 8 = true) (k : Q (.inl none) (mset (mset (mset M s 0 0) s 1 0) s 2 0) K) : Wm d 75 [vR s] M K Q := u75_0 hK hX hs k
theorem g77 {c : Int} (hK : K.1 = 923) (hX : FX M) (hs : isO 923 s 8 = true) (k : Q (.inl (some (vI (bI (jand (jshr (jor (M s 1) (M s 2)) c) 1 = 1))))) M K) : Wm d 77 [vR s, vI c] M K Q :=
  u77_0 hK hX hs ⟨fun h => by rwa [bI_f h] at k, fun h => by rwa [bI_t h] at k⟩
theorem g78 {c : Int} (hK : K.1 = 923) (hX : FX M) (hs : isO 923 s 8 = true) (k : Q (.inl (some (vI (bI (jand (M s 1) (jxor c (-1)) = 0 ∧ jand (M s 2) c = 0))))) M K) : Wm d 78 [vR s, vI c] M K Q :=
  u78_0 hK hX hs ⟨fun h => by rwa [bI_f (fun q => h q.1)] at k, fun h => ⟨fun h2 => by rwa [bI_f (fun q => h2 q.2)] at k, fun h2 => by rwa [bI_t ⟨h, h2⟩] at k⟩⟩
end SA
theorem u76_0 {d : Nat} {l0 : Nat} {l2 : Nat} {M : Mem} {K : KK} {Q : RR → Mem → KK → Prop} (hK : K.1 = 923) (hX : FX M) (k0 : isO 923 l0 8 = true) (k2 : isO 923 l2 0 = true) (h : Wp (d + 3) 76 6 [vR l0, vR 33, vR l2, vI (0 : Int), vU, vU, vU] [] (mset (mset (mset M l0 0 (0 : Int)) l0 1 (0 : Int)) l0 2 (0 : Int)) K Q) : Wp (d + 3) 76 0 [vR l0, vR 33, vR l2, vU, vU, vU, vU] [] M K Q := by
  refine r_aload_n c76_0 rfl ?_
  refine r_call c76_1 rfl rfl (Nat.le_of_ble_eq_true rfl) (okc_r rfl rfl (oK hK k0)) (g75 hK hX k0  (Bk_n ?_))
  have x1 := FX.set (v := (0 : Int)) (a := l0) (k := 0) hX (nf8 k0 (by decide))
  have x2 := FX.set (v := (0 : Int)) (a := l0) (k := 1) x1 (nf8 k0 (by decide))
  have x3 := FX.set (v := (0 : Int)) (a := l0) (k := 2) x2 (nf8 k0 (by decide))
  refine r_iconst c76_4 ?_
  refine r_istore_n c76_5 (Nat.le_of_ble_eq_true rfl) ?_
  exact h
theorem u76_6 {d : Nat} {l0 : Nat} {l2 : Nat} {l3 : Int} {l4 : PV} {l5 : PV} {l6 : PV} {M : Mem} {K : KK} {Q : RR → Mem → KK → Prop} (hK : K.1 = 923) (hX : FX M) (k0 : isO 923 l0 8 = true) (k2 : isO 923 l2 0 = true) (h : ((60 : Int) ≤ l3 → Q (.inl none) M K) ∧ (¬ ((60 : Int) ≤ l3) → ∃ B2 : BY, ∃ n3 : Nat, ∃ st4 : ST, TR B2 n3 M st4 ∧ (∀ (M8 : Mem), FX M8 → (FrT M M8 ∧ TR B2 n3 M8 st4 ∧ AtE M8 st4) → ((pk B2 n3 st4) = (-1 : Int) → Q (.inl none) M8 K) ∧ (¬ ((pk B2 n3 st4) = (-1 : Int)) → ∃ B10 : BY, ∃ n11 : Nat, ∃ st12 : ST, TR B10 n11 M8 st12 ∧ (∀ (M16 : Mem), FX M16 → (FrT M8 M16 ∧ TR B10 n11 M16 (tNum B10 n11 (0 : Int) (w32 ((M8 l2 7) - (1 : Int))) st12).2) → (¬ (jand (jshr (jor (M16 l0 1) (M16 l0 2)) ((tNum B10 n11 (0 : Int) (w32 ((M8 l2 7) - (1 : Int))) st12).1)) 1 = 1) → Wp (d + 3) 76 55 [vR l0, vR 33, vR l2, vI l3, vI (M8 33 3), vI ((tNum B10 n11 (0 : Int) (w32 ((M8 l2 7) - (1 : Int))) st12).1), l6] [] M16 K Q) ∧ ((jand (jshr (jor (M16 l0 1) (M16 l0 2)) ((tNum B10 n11 (0 : Int) (w32 ((M8 l2 7) - (1 : Int))) st12).1)) 1 = 1) → ∃ B19 : BY, ∃ n20 : Nat, ∃ st21 : ST, (TR B19 n20 M16 st21 ∧ (2 : Int) ≠ 0) ∧ (∀ (M25 : Mem), FX M25 → (FrT M16 M25 ∧ TR B19 n20 M25 (tFail (2 : Int) (M8 33 3) st21)) → Wp (d + 3) 76 55 [vR l0, vR 33, vR l2, vI l3, vI (M8 33 3), vI ((tNum B10 n11 (0 : Int) (w32 ((M8 l2 7) - (1 : Int))) st12).1), l6] [] M25 K Q))))))) : Wp (d + 3) 76 6 [vR l0, vR 33, vR l2, vI l3, l4, l5, l6] [] M K Q := by
  refine r_iload_n c76_6 rfl ?_
  refine r_bipush c76_7 ?_
  refine r_icmpP (P := (60 : Int) ≤ l3) c76_9 rfl (fun hc1 => ?_) (fun hc1 => ?_)
  · replace h := h.1 hc1
    exact r_ret c76_115 h
  · replace h := h.2 hc1
    refine r_aload_n c76_12 rfl ?_
    obtain ⟨B2, h⟩ := h
    obtain ⟨n3, h⟩ := h
    obtain ⟨st4, h⟩ := h
    obtain ⟨p5, h⟩ := h
    refine r_call c76_13 rfl rfl (Nat.le_of_ble_eq_true rfl) (okc_r rfl rfl (oK hK o33)) (g88 hK hX p5 (fun M8 x6 p7 => Bk_v ?_))
    replace h := h M8 x6 p7
    refine r_iconst c76_16 ?_
    refine r_icmpP (P := (pk B2 n3 st4) = (-1 : Int)) c76_17 rfl (fun hc9 => ?_) (fun hc9 => ?_)
    · replace h := h.1 hc9
      exact r_ret c76_115 h
    · replace h := h.2 hc9
      refine r_aload_n c76_20 rfl ?_
      refine r_getIe c76_21 (oK hK o33) rfl ?_
      refine r_istore c76_24 (Nat.le_of_ble_eq_true rfl) ?_
      refine r_aload_n c76_26 rfl ?_
      refine r_iconst c76_27 ?_
      refine r_aload_n c76_28 rfl ?_
      refine r_getIe c76_29 (oK hK k2) rfl ?_
      refine r_iconst c76_32 ?_
      refine r_isub c76_33 ?_
      obtain ⟨B10, h⟩ := h
      obtain ⟨n11, h⟩ := h
      obtain ⟨st12, h⟩ := h
      obtain ⟨p13, h⟩ := h
      refine r_call c76_34 rfl rfl (Nat.le_of_ble_eq_true rfl) (okc_r rfl rfl (oK hK o33)) (g92 hK x6 p13 (fun M16 x14 p15 => Bk_v ?_))
      replace h := h M16 x14 p15
      refine r_istore c76_37 (Nat.le_of_ble_eq_true rfl) ?_
      refine r_aload_n c76_39 rfl ?_
      refine r_iload c76_40 rfl ?_
      refine r_call c76_42 rfl rfl (Nat.le_of_ble_eq_true rfl) (okc_r rfl rfl (oK hK k0)) (g77 hK x14 k0  (Bk_v ?_))
      refine r_ifP (P := ¬ (jand (jshr (jor (M16 l0 1) (M16 l0 2)) ((tNum B10 n11 (0 : Int) (w32 ((M8 l2 7) - (1 : Int))) st12).1)) 1 = 1)) c76_45 bI_eq (fun hc17 => ?_) (fun hc17 => ?_)
      · replace h := h.1 hc17
        exact h
      · have hc18 := Classical.not_not.mp hc17
        replace h := h.2 hc18
        refine r_aload_n c76_48 rfl ?_
        refine r_iconst c76_49 ?_
        refine r_iload c76_50 rfl ?_
        obtain ⟨B19, h⟩ := h
        obtain ⟨n20, h⟩ := h
        obtain ⟨st21, h⟩ := h
        obtain ⟨p22, h⟩ := h
        refine r_call c76_52 rfl rfl (Nat.le_of_ble_eq_true rfl) (okc_r rfl rfl (oK hK o33)) (g87 hK x14 p22 (fun M25 x23 p24 => Bk_n ?_))
        replace h := h M25 x23 p24
        exact h
theorem u76_55 {d : Nat} {l0 : Nat} {l2 : Nat} {l3 : Int} {l4 : Int} {l5 : Int} {l6 : PV} {M : Mem} {K : KK} {Q : RR → Mem → KK → Prop} (hK : K.1 = 923) (hX : FX M) (k0 : isO 923 l0 8 = true) (k2 : isO 923 l2 0 = true) (h : ∃ B1 : BY, ∃ n2 : Nat, ∃ st3 : ST, TR B1 n2 M st3 ∧ (∀ (M7 : Mem), FX M7 → (FrT M M7 ∧ TR B1 n2 M7 (tNum B1 n2 (0 : Int) (1 : Int) st3).2) → ∃ B8 : BY, ∃ n9 : Nat, ∃ st10 : ST, (TR B8 n9 M7 st10 ∧ (59 : Int) ≠ -1) ∧ (∀ (M14 : Mem), FX M14 → (FrT M7 M14 ∧ TR B8 n9 M14 (tSign B8 n9 (59 : Int) st10)) → Wp (d + 3) 76 6 [vR l0, vR 33, vR l2, vI (w32 (l3 + 1)), vI l4, vI l5, vI ((tNum B1 n2 (0 : Int) (1 : Int) st3).1)] [] (mset (mset (mset M14 l0 1 (jor (M14 l0 1) (jshl ((tNum B1 n2 (0 : Int) (1 : Int) st3).1) l5))) l0 2 (jor (M14 l0 2) (jshl (w32 ((1 : Int) - ((tNum B1 n2 (0 : Int) (1 : Int) st3).1))) l5))) l0 0 (w32 ((M14 l0 0) + (1 : Int)))) K Q))) : Wp (d + 3) 76 55 [vR l0, vR 33, vR l2, vI l3, vI l4, vI l5, l6] [] M K Q := by
  refine r_aload_n c76_55 rfl ?_
  refine r_iconst c76_56 ?_
  refine r_iconst c76_57 ?_
  obtain ⟨B1, h⟩ := h
  obtain ⟨n2, h⟩ := h
  obtain ⟨st3, h⟩ := h
  obtain ⟨p4, h⟩ := h
  refine r_call c76_58 rfl rfl (Nat.le_of_ble_eq_true rfl) (okc_r rfl rfl (oK hK o33)) (g92 hK hX p4 (fun M7 x5 p6 => Bk_v ?_))
  replace h := h M7 x5 p6
  refine r_istore c76_61 (Nat.le_of_ble_eq_true rfl) ?_
  refine r_aload_n c76_63 rfl ?_
  refine r_bipush c76_64 ?_
  obtain ⟨B8, h⟩ := h
  obtain ⟨n9, h⟩ := h
  obtain ⟨st10, h⟩ := h
  obtain ⟨p11, h⟩ := h
  refine r_call c76_66 rfl rfl (Nat.le_of_ble_eq_true rfl) (okc_r rfl rfl (oK hK o33)) (g91 hK x5 p11 (fun M14 x12 p13 => Bk_n ?_))
  replace h := h M14 x12 p13
  refine r_aload_n c76_69 rfl ?_
  refine r_dupr c76_70 ?_
  refine r_getIe c76_71 (oK hK k0) rfl ?_
  refine r_iload c76_74 rfl ?_
  refine r_iload c76_76 rfl ?_
  refine r_ishl c76_78 ?_
  refine r_ior c76_79 ?_
  refine r_putI c76_80 (oK hK k0) ?_
  have x15 := FX.set (v := (jor (M14 l0 1) (jshl ((tNum B1 n2 (0 : Int) (1 : Int) st3).1) l5))) (a := l0) (k := 1) x12 (nf8 k0 (by decide))
  refine r_aload_n c76_83 rfl ?_
  refine r_dupr c76_84 ?_
  refine r_getIe c76_85 (oK hK k0) (ms_nk (by decide)) ?_
  refine r_iconst c76_88 ?_
  refine r_iload c76_89 rfl ?_
  refine r_isub c76_91 ?_
  refine r_iload c76_92 rfl ?_
  refine r_ishl c76_94 ?_
  refine r_ior c76_95 ?_
  refine r_putI c76_96 (oK hK k0) ?_
  have x16 := FX.set (v := (jor (M14 l0 2) (jshl (w32 ((1 : Int) - ((tNum B1 n2 (0 : Int) (1 : Int) st3).1))) l5))) (a := l0) (k := 2) x15 (nf8 k0 (by decide))
  refine r_aload_n c76_99 rfl ?_
  refine r_dupr c76_100 ?_
  refine r_getIe c76_101 (oK hK k0) (Eq.trans (ms_nk (by decide)) (ms_nk (by decide))) ?_
  refine r_iconst c76_104 ?_
  refine r_iadd c76_105 ?_
  refine r_putI c76_106 (oK hK k0) ?_
  have x17 := FX.set (v := (w32 ((M14 l0 0) + (1 : Int)))) (a := l0) (k := 0) x16 (nf8 k0 (by decide))
  refine r_iinc c76_109 rfl ?_
  refine r_goto c76_112 ?_
  exact h
def bitsOf (L : LC) (b : Int) : Nat := L.foldl (fun a x => if x.2 = b then a ||| 2 ^ x.1.toNat else a) 0
theorem bitsOf_snoc {L : LC} {x : Int × Int} {b : Int} : bitsOf (L ++ [x]) b = if x.2 = b then bitsOf L b ||| 2 ^ x.1.toNat else bitsOf L b := by
  unfold bitsOf; rw [List.foldl_append]; rfl
/-- lines as they can be -/
def SW (L : LC) : Prop := ∀ x ∈ L, (0 ≤ x.1 ∧ x.1 < 8) ∧ (x.2 = 0 ∨ x.2 = 1)
theorem snocInd {R : LC → Prop} (h0 : R []) (h1 : ∀ L x, R L → R (L ++ [x])) : ∀ L, R L := by
  intro L
  have : ∀ (k : Nat) (L : LC), L.length = k → R L := by
    intro k
    induction k with
    | zero => intro L hl; rw [List.eq_nil_of_length_eq_zero hl]; exact h0
    | succ k ih =>
      intro L hl
      have hne : L ≠ [] := by intro h; subst h; simp at hl
      rw [← List.dropLast_concat_getLast hne]
      exact h1 _ _ (ih _ (by simp [hl]))
  exact this _ L rfl
theorem bitsOf_tb {b : Int} {i : Nat} : ∀ (L : LC), SW L → ((bitsOf L b).testBit i = true ↔ ∃ x ∈ L, x.2 = b ∧ x.1 = (i : Int)) := by
  refine snocInd ?_ ?_
  · intro _; simp [bitsOf]
  · intro L x ih hw
    have hw' : SW L := fun y hy => hw y (List.mem_append_left _ hy)
    have hx := hw x (by simp)
    have ih := ih hw'
    rw [bitsOf_snoc]
    constructor
    · intro h
      split at h
      · rename_i hb
        rw [Nat.testBit_or, tb_pow, Bool.or_eq_true] at h
        rcases h with h | h
        · obtain ⟨y, hy, h2⟩ := ih.mp h
          exact ⟨y, List.mem_append_left _ hy, h2⟩
        · exact ⟨x, by simp, hb, by have := of_decide_eq_true h; omega⟩
      · obtain ⟨y, hy, h2⟩ := ih.mp h
        exact ⟨y, List.mem_append_left _ hy, h2⟩
    · rintro ⟨y, hy, h2, h3⟩
      rw [List.mem_append] at hy
      rcases hy with hy | hy
      · have := ih.mpr ⟨y, hy, h2, h3⟩
        split
        · rw [Nat.testBit_or, this]; rfl
        · exact this
      · simp only [List.mem_singleton] at hy
        subst hy
        rw [if_pos h2, Nat.testBit_or, tb_pow, show y.1.toNat = i from by omega]
        simp
theorem bitsOf_lt {b : Int} : ∀ (L : LC), SW L → bitsOf L b < 2 ^ 8 := by
  refine snocInd ?_ ?_
  · intro _; simp [bitsOf]
  · intro L x ih hw
    have hx := hw x (by simp)
    rw [bitsOf_snoc]
    have := ih (fun y hy => hw y (List.mem_append_left _ hy))
    split
    · exact Nat.or_lt_two_pow this (Nat.pow_lt_pow_right (by decide) (by omega))
    · exact this
/-- the lines L in the class's sayings s -/
def SY (M : Mem) (s : Nat) (L : LC) : Prop := M s 0 = (L.length : Int) ∧ M s 1 = ((bitsOf L 1 : Nat) : Int) ∧ M s 2 = ((bitsOf L 0 : Nat) : Int)
/-- a deed of which the lines speak -/
def spk (L : LC) (d : Int) : Bool := L.any (fun x => decide (x.1 = d))
theorem spk_iff {L : LC} {d : Int} : spk L d = true ↔ ∃ x ∈ L, x.1 = d := by simp [spk]
theorem SY_spk {M : Mem} {s : Nat} {L : LC} {d : Int} (h : SY M s L) (hw : SW L) (hd : 0 ≤ d ∧ d < 8) : jand (jshr (jor (M s 1) (M s 2)) d) 1 = 1 ↔ spk L d = true := by
  obtain ⟨d, rfl⟩ : ∃ d' : Nat, d = (d' : Int) := ⟨d.toNat, by omega⟩
  have l1 := bitsOf_lt (b := 1) L hw
  have l0 := bitsOf_lt (b := 0) L hw
  have l2 := Nat.or_lt_two_pow l1 l0
  rw [h.2.1, h.2.2, jor_n (by omega) (by omega), bit_n (by omega) (by omega), spk_iff, Nat.testBit_or]
  have t1 := bitsOf_tb (b := 1) (i := d) L hw
  have t0 := bitsOf_tb (b := 0) (i := d) L hw
  constructor
  · intro h
    split at h
    · rename_i hh
      rw [Bool.or_eq_true] at hh
      rcases hh with hh | hh
      · obtain ⟨x, hx, -, h3⟩ := t1.mp hh; exact ⟨x, hx, h3⟩
      · obtain ⟨x, hx, -, h3⟩ := t0.mp hh; exact ⟨x, hx, h3⟩
    · exact absurd h (by decide)
  · rintro ⟨x, hx, h3⟩
    rw [if_pos]
    rw [Bool.or_eq_true]
    rcases (hw x hx).2 with h4 | h4
    · exact Or.inr (t0.mpr ⟨x, hx, h4, h3⟩)
    · exact Or.inl (t1.mpr ⟨x, hx, h4, h3⟩)
section SF
variable (B : BY) (n : Nat)
def syS (nD : Int) (p : Nat) (L : LC) : ST := if spk L (tNum B n 0 (nD - 1) (.inl p)).1 = true then tFail 2 (p : Int) (tNum B n 0 (nD - 1) (.inl p)).2 else (tNum B n 0 (nD - 1) (.inl p)).2
def syF (nD : Int) (x : XL) : XL := match x.1 with
  | .inr f => (.inr f, x.2)
  | .inl p => (tSign B n 59 (tNum B n 0 1 (syS B n nD p x.2)).2, x.2 ++ [((tNum B n 0 (nD - 1) (.inl p)).1, (tNum B n 0 1 (syS B n nD p x.2)).1)])
def syL (nD : Int) : Nat → XL → XL
  | 0, x => x
  | f + 1, x => if pk B n x.1 = -1 then x else syL nD f (syF B n nD x)
def pSay (nD : Int) : XL := syL B n nD 60 (.inl (sk B n 0), [])
end SF
section SG
variable {B : BY} {n : Nat}
theorem tFail_ok {k pl : Int} {st : ST} {p : Nat} (h : tFail k pl st = .inl p) : False := by
  cases st <;> cases h
theorem syF_w {nD : Int} {p : Nat} {L : LC} (hn : 0 ≤ nD ∧ nD ≤ 8) (hw : SW L) (h : ∃ q, (syF B n nD (.inl p, L)).1 = .inl q) : SW (syF B n nD (.inl p, L)).2 ∧ spk L (tNum B n 0 (nD - 1) (.inl p)).1 = false ∧ (0 ≤ (tNum B n 0 (nD - 1) (.inl p)).1 ∧ (tNum B n 0 (nD - 1) (.inl p)).1 < nD) := by
  obtain ⟨q, hq⟩ := h
  obtain ⟨q1, h1⟩ := sign_ok hq
  obtain ⟨q2, h2⟩ := tNum_ok h1
  have hs : ¬ spk L (tNum B n 0 (nD - 1) (.inl p)).1 = true := by
    intro hs
    unfold syS at h2
    rw [if_pos hs] at h2
    exact tFail_ok h2
  unfold syS at h2
  rw [if_neg hs] at h2
  have hd : 0 ≤ (tNum B n 0 (nD - 1) (.inl p)).1 ∧ (tNum B n 0 (nD - 1) (.inl p)).1 < nD := by
    simp only [tNum] at h2 ⊢
    split at h2
    · rename_i h3
      rw [if_pos h3]
      split at h2
      · cases h2
      · rename_i h4; rw [if_neg h4]; dsimp only; omega
    · cases h2
  have hb := tNum_rg (B := B) (n := n) (lo := 0) (hi := 1) (by decide) (syS B n nD p L)
  refine ⟨fun x hx => ?_, by simpa using hs, hd⟩
  simp only [syF, List.mem_append, List.mem_singleton] at hx
  rcases hx with hx | hx
  · exact hw x hx
  · subst hx; dsimp only; omega
theorem syF_FL {nD : Int} {f : Int × Int} {L : LC} : syF B n nD (.inr f, L) = (.inr f, L) := rfl
theorem syL_FL {nD : Int} {g : Int × Int} {L : LC} : ∀ f, syL B n nD f (.inr g, L) = (.inr g, L) := by
  intro f
  cases f with
  | zero => rfl
  | succ f => simp only [syL]; rw [if_pos (by rfl)]
end SG
def FrZ (s : Nat) (M M' : Mem) : Prop := ∀ a k, ¬ (a = s ∧ k < 3) → ¬ (a = 33 ∧ 3 ≤ k ∧ k ≤ 7) → M' a k = M a k
theorem FrZ.tr {s : Nat} {M M1 M2 : Mem} (h1 : FrZ s M M1) (h2 : FrZ s M1 M2) : FrZ s M M2 := fun a k p q => (h2 a k p q).trans (h1 a k p q)
theorem FrT.Z {s : Nat} {M M' : Mem} (h : FrT M M') : FrZ s M M' := fun a k _ t => h a k t
theorem FrZ.up {s : Nat} {M M1 : Mem} {k : Nat} {v : Int} (h : FrZ s M M1) (hk : k < 3) : FrZ s M (mset M1 s k v) := by
  intro b j p q
  unfold mset
  rw [if_neg (by rintro ⟨rfl, rfl⟩; exact p ⟨rfl, hk⟩)]
  exact h b j p q
section SB1
variable {d : Nat} {M : Mem} {K : KK} {Q : RR → Mem → KK → Prop} {B : BY} {n : Nat} {s cm : Nat}
theorem SY.t {M' : Mem} {L : LC} (hs : isO 923 s 8 = true) (hf : FrT M M') (h : SY M s L) : SY M' s L := by
  have hr := rg8 hs
  exact ⟨(hf s 0 (by omega)).trans h.1, (hf s 1 (by omega)).trans h.2.1, (hf s 2 (by omega)).trans h.2.2⟩
theorem g76 {nD : Int} (hK : K.1 = 923) (hX : FX M) (hs : isO 923 s 8 = true) (hcm : isO 923 cm 0 = true) (h : TR B n M (.inl (sk B n 0)) ∧ (∀ i, i < n → 0 ≤ B i) ∧ M cm 7 = nD ∧ 0 ≤ nD ∧ nD ≤ 8) (k : ∀ M', FX M' → (FrZ s M M' ∧ TR B n M' (pSay B n nD).1 ∧ (∀ p, (pSay B n nD).1 = .inl p → SY M' s (pSay B n nD).2)) → Q (.inl none) M' K) : Wm (d + 3) 76 [vR s, vR 33, vR cm] M K Q := by
  obtain ⟨ht, hB, hc, hn0, hn8⟩ := h
  have hr := rg8 hs
  have hr0 := rg0 hcm
  refine u76_0 hK hX hs hcm ?_
  have loop : ∀ (f i : Nat) (x : XL) (M2 : Mem) (l4 l5 l6 : PV), f + i = 60 → FX M2 → FrZ s M M2 → TR B n M2 x.1 → (∀ p, x.1 = .inl p → SY M2 s x.2 ∧ SW x.2 ∧ x.2.length = i) → (∀ M', FX M' → FrZ s M M' → TR B n M' (syL B n nD f x).1 → (∀ p, (syL B n nD f x).1 = .inl p → SY M' s (syL B n nD f x).2) → Q (.inl none) M' K) → Wp (d + 3) 76 6 [vR s, vR 33, vR cm, vI (i : Int), l4, l5, l6] [] M2 K Q := by
    intro f
    induction f with
    | zero =>
      intro i x M2 l4 l5 l6 hi x2 f2 t2 y2 kk
      exact u76_6 hK x2 hs hcm ⟨fun _ => kk M2 x2 f2 t2 (fun p hp => (y2 p hp).1), fun h => by omega⟩
    | succ f ih =>
      rintro i ⟨st, L⟩ M2 l4 l5 l6 hi x2 f2 t2 y2 kk
      dsimp only at t2 y2
      simp only [syL] at kk
      refine u76_6 hK x2 hs hcm ⟨fun h => by omega, fun _ => ⟨B, n, st, t2, fun M3 x3 p3 => ⟨fun he => ?_, fun hne => ?_⟩⟩⟩
      · rw [if_pos he] at kk
        exact kk M3 x3 (f2.tr p3.1.Z) p3.2.1 (fun p hp => (y2 p hp).1.t hs p3.1)
      · rw [if_neg hne] at kk
        obtain ⟨p, rfl⟩ : ∃ p, st = .inl p := by
          cases st with
          | inl p => exact ⟨p, rfl⟩
          | inr f => exact absurd rfl hne
        obtain ⟨hsy, hsw, hlen⟩ := y2 p rfl
        have hat : M3 33 3 = (p : Int) := p3.2.2
        have e7 : M3 cm 7 = nD := (p3.1 cm 7 (by omega)).trans ((f2 cm 7 (by omega) (by omega)).trans hc)
        rw [hat, e7, w32_id (by omega)]
        -- behind the deed's number
        have go : ∀ M4, FX M4 → FrZ s M M4 → SY M4 s L → TR B n M4 (syS B n nD p L) → Wp (d + 3) 76 55 [vR s, vR 33, vR cm, vI (i : Int), vI (p : Int), vI (tNum B n 0 (nD - 1) (.inl p)).1, l6] [] M4 K Q := by
          intro M4 x4 f4 y4 t4
          refine u76_55 hK x4 hs hcm ⟨B, n, _, t4, fun M5 x5 p5 => ⟨B, n, _, ⟨p5.2, by decide⟩, fun M6 x6 p6 => ?_⟩⟩
          have y6 := (y4.t hs p5.1).t hs p6.1
          have hb := tNum_rg (B := B) (n := n) (lo := 0) (hi := 1) (by decide) (syS B n nD p L)
          rw [w1 (by omega)]
          refine ih (i + 1) (syF B n nD (.inl p, L)) _ _ _ _ (by omega) (((x6.set (nf8 hs (by decide))).set (nf8 hs (by decide))).set (nf8 hs (by decide))) (((((f4.tr p5.1.Z).tr p6.1.Z).up (by decide)).up (by decide)).up (by decide)) ?_ ?_ kk
          · exact ((p6.2.set (by omega)).set (by omega)).set (by omega)
          · intro q hq
            obtain ⟨w1', w2, w3⟩ := syF_w ⟨hn0, hn8⟩ hsw ⟨q, hq⟩
            refine ⟨?_, w1', by simp [syF, hlen]⟩
            have l1 := bitsOf_lt (b := 1) L hsw
            have l0 := bitsOf_lt (b := 0) L hsw
            obtain ⟨y61, y62, y63⟩ := y6
            generalize hdd : (tNum B n 0 (nD - 1) (.inl p)).1 = dd at w3
            obtain ⟨de, rfl⟩ : ∃ d' : Nat, dd = (d' : Int) := ⟨dd.toNat, by omega⟩
            have hp2 : 2 ^ de < 2 ^ 8 := Nat.pow_lt_pow_right (by decide) (by omega)
            refine ⟨?_, ?_, ?_⟩
            · rw [ms_eq, y61, w1 (by omega)]; simp [syF]
            · rw [ms_nk (by decide), ms_nk (by decide), ms_eq, y62]
              simp only [syF, bitsOf_snoc, hdd]
              rcases (show (tNum B n 0 1 (syS B n nD p L)).1 = 0 ∨ (tNum B n 0 1 (syS B n nD p L)).1 = 1 by omega) with h | h
              · rw [h, if_neg (by decide), show (0 : Int) = ((0 : Nat) : Int) from rfl, jshl_n (by omega) (by omega), jor_n (by omega) (by omega)]; simp
              · have e1 : jshl 1 (de : Int) = ((1 * 2 ^ de : Nat) : Int) := jshl_n (a := 1) (by omega) (by omega)
                rw [h, if_pos rfl, e1, jor_n (by omega) (by omega)]; simp
            · rw [ms_nk (by decide), ms_eq, y63]
              simp only [syF, bitsOf_snoc, hdd]
              rcases (show (tNum B n 0 1 (syS B n nD p L)).1 = 0 ∨ (tNum B n 0 1 (syS B n nD p L)).1 = 1 by omega) with h | h
              · rw [h, if_pos rfl, show w32 (1 - 0) = ((1 : Nat) : Int) from by decide, jshl_n (by omega) (by omega), jor_n (by omega) (by omega)]; simp
              · rw [h, if_neg (by decide), show w32 (1 - 1) = ((0 : Nat) : Int) from by decide, jshl_n (by omega) (by omega), jor_n (by omega) (by omega)]; simp
        refine ⟨B, n, _, p3.2.1, fun M4 x4 p4 => ?_⟩
        have y4 := (hsy.t hs p3.1).t hs p4.1
        have f4 := (f2.tr p3.1.Z).tr p4.1.Z
        -- where the number is right, the bits tell what was said
        have hiff : ∀ q, (tNum B n 0 (nD - 1) (.inl p)).2 = .inl q → (jand (jshr (jor (M4 s 1) (M4 s 2)) (tNum B n 0 (nD - 1) (.inl p)).1) 1 = 1 ↔ spk L (tNum B n 0 (nD - 1) (.inl p)).1 = true) := by
          intro q hq
          refine SY_spk y4 hsw ?_
          simp only [tNum] at hq ⊢
          split at hq
          · rename_i h3
            rw [if_pos h3]
            split at hq
            · cases hq
            · rename_i h4; rw [if_neg h4]; dsimp only; omega
          · cases hq
        refine ⟨fun hno => go M4 x4 f4 y4 ?_, fun hyes => ⟨B, n, _, ⟨p4.2, by decide⟩, fun M5 x5 p5 => go M5 x5 (f4.tr p5.1.Z) (y4.t hs p5.1) ?_⟩⟩
        · have t4 := p4.2
          cases hh : (tNum B n 0 (nD - 1) (.inl p)).2 with
          | inr f =>
            rw [hh] at t4
            unfold syS; rw [hh]
            split
            · exact t4
            · exact t4
          | inl q =>
            unfold syS
            rw [if_neg (fun h => hno ((hiff q hh).mpr h))]; exact t4
        · have t5 := p5.2
          cases hh : (tNum B n 0 (nD - 1) (.inl p)).2 with
          | inr f =>
            rw [hh] at t5
            unfold syS; rw [hh]
            split
            · exact t5
            · exact t5
          | inl q =>
            unfold syS
            rw [if_pos ((hiff q hh).mp hyes)]; exact t5
  have f0 : FrZ s M (mset (mset (mset M s 0 0) s 1 0) s 2 0) := ((FrZ.up (fun _ _ _ _ => rfl) (by decide)).up (by decide)).up (by decide)
  refine loop 60 0 (.inl (sk B n 0), []) _ vU vU vU rfl (((hX.set (nf8 hs (by decide))).set (nf8 hs (by decide))).set (nf8 hs (by decide))) f0 (((ht.set (by omega)).set (by omega)).set (by omega)) ?_ (fun M' x' f' t' y' => k M' x' ⟨f', t', y'⟩)
  intro p _
  refine ⟨⟨?_, ?_, ?_⟩, fun x hx => by simp at hx, rfl⟩
  · rw [ms_nk (by decide), ms_nk (by decide), ms_eq]; rfl
  · rw [ms_nk (by decide), ms_eq]; rfl
  · rw [ms_eq]; rfl
end SB1
