/-! a law: codes, counting -/
abbrev LC : Type := List (Int × Int)
theorem w1 {i : Nat} (h : i < 2147483647) : w32 ((i : Int) + 1) = ((i + 1 : Nat) : Int) := by rw [w32_id (by omega)]; omega
def opV (k a b : Int) : Int := if k = 2 then w32 (a + b) else if k = 3 then w32 (a - b) else if k = 4 then w32 (a * b) else if k = 5 then (if b = 0 then 0 else w32 (a.tdiv b)) else if k = 6 then (if b = 0 then 0 else a.tmod b) else if k = 7 then min a b else max a b
def encC (c : Int × Int) : Int := if c.1 = 0 then c.2 else if c.1 = 1 then 1000 + c.2 else 1998 + c.1
/-- a code as it can stand -/
def KO (c : Int × Int) : Prop := (c.1 = 0 ∧ 0 ≤ c.2 ∧ c.2 ≤ 999) ∨ (c.1 = 1 ∧ 0 ≤ c.2 ∧ c.2 ≤ 7) ∨ (2 ≤ c.1 ∧ c.1 ≤ 8)
/-- codes that take the stack from d to e values -/
def Vd : LC → Nat → Nat → Prop
  | [], d, e => d = e
  | c :: r, d, e => KO c ∧ if c.1 < 2 then Vd r (d + 1) e else 2 ≤ d ∧ Vd r (d - 1) e
theorem Vd.app {L1 L2 : LC} : ∀ {a b c : Nat}, Vd L1 a b → Vd L2 b c → Vd (L1 ++ L2) a c := by
  induction L1 with
  | nil => intro a b c h1 h2; cases h1; exact h2
  | cons x r ih =>
    intro a b c h1 h2
    simp only [Vd, List.cons_append] at h1 ⊢
    refine ⟨h1.1, ?_⟩
    split
    · rename_i hx; rw [if_pos hx] at h1; exact ih h1.2 h2
    · rename_i hx; rw [if_neg hx] at h1; exact ⟨h1.2.1, ih h1.2.2 h2⟩
theorem Vd.up {L : LC} : ∀ {a b : Nat} (j : Nat), Vd L a b → Vd L (a + j) (b + j) := by
  induction L with
  | nil => intro a b j h; cases h; rfl
  | cons x r ih =>
    intro a b j h
    simp only [Vd] at h ⊢
    refine ⟨h.1, ?_⟩
    split
    · rename_i hx; rw [if_pos hx] at h
      have := ih j h.2
      rwa [show a + 1 + j = a + j + 1 from by omega] at this
    · rename_i hx; rw [if_neg hx] at h
      have := ih j h.2.2
      exact ⟨by omega, by rwa [show a - 1 + j = a + j - 1 from by omega] at this⟩
abbrev SK : Type := Nat × (Nat → Int)
def ex (fa : Nat → Int) (c : Int × Int) (s : SK) : SK := if c.1 < 2 then (s.1 + 1, fun j => if j = s.1 then (if c.1 = 0 then c.2 else fa c.2.toNat) else s.2 j) else (s.1 - 1, fun j => if j = s.1 - 2 then opV c.1 (s.2 (s.1 - 2)) (s.2 (s.1 - 1)) else s.2 j)
def evA (fa : Nat → Int) (L : LC) : SK := L.foldl (fun s c => ex fa c s) (0, fun _ => 0)
theorem evA_snoc {fa : Nat → Int} {L : LC} {c : Int × Int} : evA fa (L ++ [c]) = ex fa c (evA fa L) := by
  unfold evA; rw [List.foldl_append]; rfl
def clmp (v : Int) : Int := max 0 (min 99 v)
def PL : LC := [(1, 0), (1, 1), (5, 0), (1, 3), (2, 0), (1, 4), (0, 2), (4, 0), (2, 0)]
def eff (L : LC) : LC := if L = [] then PL else L
/-- how much is whitened by the law L at facts fa -/
def wh (fa : Nat → Int) (L : LC) : Int := clmp ((evA fa (eff L)).2 0)
theorem Vd_PL : Vd PL 0 1 := by
  simp [PL, Vd, KO]
/-- codes L in the law l of the class -/
def CR (M : Mem) (l : Nat) (L : LC) : Prop := M l 3 = (L.length : Int) ∧ L.length ≤ 150 ∧ ∀ i, i < L.length → M (l + 2) i = encC (L.getD i (0, 0))
theorem u20_0 {d : Nat} {l0 : Nat} {l1 : Int} {M : Mem} {K : KK} {Q : RR → Mem → KK → Prop} (hK : K.1 = 923) (hX : FX M) (k0 : isO 923 l0 2 = true) (h : ((150 : Int) ≤ (M l0 3) → Q (.inl none) M K) ∧ (¬ ((150 : Int) ≤ (M l0 3)) → (0 ≤ (M l0 3) ∧ (M l0 3) < (150 : Int)) ∧ Q (.inl none) (mset (mset M (l0 + 2) (Int.toNat (M l0 3)) l1) l0 3 (w32 ((M l0 3) + (1 : Int)))) K)) : Wp d 20 0 [vR l0, vI l1] [] M K Q := by
  refine r_aload_n c20_0 rfl ?_
  refine r_getIe c20_1 (oK hK k0) rfl ?_
  refine r_aload_n c20_4 rfl ?_
  refine r_getR c20_5 (oK hK k0) (fx2_1 hX k0) (by omega) ?_
  refine r_alene c20_8 (mal (q2_1 k0) rfl hK) (z2_1 k0) ?_
  refine r_icmpP (P := (150 : Int) ≤ (M l0 3)) c20_9 rfl (fun hc1 => ?_) (fun hc1 => ?_)
  · replace h := h.1 hc1
    exact r_ret c20_32 h
  · replace h := h.2 hc1
    refine r_aload_n c20_12 rfl ?_
    refine r_getR c20_13 (oK hK k0) (fx2_1 hX k0) (by omega) ?_
    refine r_aload_n c20_16 rfl ?_
    refine r_getIe c20_17 (oK hK k0) rfl ?_
    refine r_iload_n c20_20 rfl ?_
    obtain ⟨s2, h⟩ := h
    refine r_ias c20_21 (oK hK (q2_1 k0)) (bd (z2_1 k0) s2) ?_
    have x3 := FX.set (v := l1) (a := (l0 + 2)) (k := (Int.toNat (M l0 3))) hX (nfa (q2_1 k0) _)
    refine r_aload_n c20_22 rfl ?_
    refine r_dupr c20_23 ?_
    refine r_getIe c20_24 (oK hK k0) (ms_na (by omega)) ?_
    refine r_iconst c20_27 ?_
    refine r_iadd c20_28 ?_
    refine r_putI c20_29 (oK hK k0) ?_
    have x4 := FX.set (v := (w32 ((M l0 3) + (1 : Int)))) (a := l0) (k := 3) x3 (nf2 k0 (by decide))
    exact r_ret c20_32 h
theorem u25_0 {d : Nat}  {M : Mem} {K : KK} {Q : RR → Mem → KK → Prop} (hK : K.1 = 923) (hX : FX M)  (h : ∃ n1 : Nat, ∃ p2 : Nat, ∃ e3 : Nat, WA n1 M p2 e3 ∧ (¬ (wdL (M 34) p2 e3 = wL 10) → ∃ n7 : Nat, ∃ p8 : Nat, ∃ e9 : Nat, WA n7 M p8 e9 ∧ (¬ (wdL (M 34) p8 e9 = wL 11) → ∃ n13 : Nat, ∃ p14 : Nat, ∃ e15 : Nat, WA n13 M p14 e15 ∧ (¬ (wdL (M 34) p14 e15 = wL 12) → ∃ n19 : Nat, ∃ p20 : Nat, ∃ e21 : Nat, WA n19 M p20 e21 ∧ (¬ (wdL (M 34) p20 e21 = wL 13) → ∃ n25 : Nat, ∃ p26 : Nat, ∃ e27 : Nat, WA n25 M p26 e27 ∧ (¬ (wdL (M 34) p26 e27 = wL 14) → ∃ n31 : Nat, ∃ p32 : Nat, ∃ e33 : Nat, WA n31 M p32 e33 ∧ (¬ (wdL (M 34) p32 e33 = wL 15) → ∃ n37 : Nat, ∃ p38 : Nat, ∃ e39 : Nat, WA n37 M p38 e39 ∧ (¬ (wdL (M 34) p38 e39 = wL 16) → ∃ n43 : Nat, ∃ p44 : Nat, ∃ e45 : Nat, WA n43 M p44 e45 ∧ (¬ (wdL (M 34) p44 e45 = wL 17) → Q (.inl (some (vI (-1 : Int)))) M K) ∧ ((wdL (M 34) p44 e45 = wL 17) → Q (.inl (some (vI (7 : Int)))) M K)) ∧ ((wdL (M 34) p38 e39 = wL 16) → Q (.inl (some (vI (6 : Int)))) M K)) ∧ ((wdL (M 34) p32 e33 = wL 15) → Q (.inl (some (vI (5 : Int)))) M K)) ∧ ((wdL (M 34) p26 e27 = wL 14) → Q (.inl (some (vI (4 : Int)))) M K)) ∧ ((wdL (M 34) p20 e21 = wL 13) → Q (.inl (some (vI (3 : Int)))) M K)) ∧ ((wdL (M 34) p14 e15 = wL 12) → Q (.inl (some (vI (2 : Int)))) M K)) ∧ ((wdL (M 34) p8 e9 = wL 11) → Q (.inl (some (vI (1 : Int)))) M K)) ∧ ((wdL (M 34) p2 e3 = wL 10) → Q (.inl (some (vI (0 : Int)))) M K)) : Wp (d + 1) 25 0 [vR 33] [] M K Q := by
  refine r_aload_n c25_0 rfl ?_
  refine r_ldcs c25_1 ?_
  obtain ⟨n1, h⟩ := h
  obtain ⟨p2, h⟩ := h
  obtain ⟨e3, h⟩ := h
  obtain ⟨p4, h⟩ := h
  refine r_call c25_3 rfl rfl (Nat.le_of_ble_eq_true rfl) (okc_r rfl rfl (oK hK o33)) (g94 hK hX (by decide) p4 (Bk_v ?_))
  refine r_ifP (P := ¬ (wdL (M 34) p2 e3 = wL 10)) c25_6 bI_eq (fun hc5 => ?_) (fun hc5 => ?_)
  · replace h := h.1 hc5
    refine r_aload_n c25_13 rfl ?_
    refine r_ldcs c25_14 ?_
    obtain ⟨n7, h⟩ := h
    obtain ⟨p8, h⟩ := h
    obtain ⟨e9, h⟩ := h
    obtain ⟨p10, h⟩ := h
    refine r_call c25_16 rfl rfl (Nat.le_of_ble_eq_true rfl) (okc_r rfl rfl (oK hK o33)) (g94 hK hX (by decide) p10 (Bk_v ?_))
    refine r_ifP (P := ¬ (wdL (M 34) p8 e9 = wL 11)) c25_19 bI_eq (fun hc11 => ?_) (fun hc11 => ?_)
    · replace h := h.1 hc11
      refine r_aload_n c25_26 rfl ?_
      refine r_ldcs c25_27 ?_
      obtain ⟨n13, h⟩ := h
      obtain ⟨p14, h⟩ := h
      obtain ⟨e15, h⟩ := h
      obtain ⟨p16, h⟩ := h
      refine r_call c25_29 rfl rfl (Nat.le_of_ble_eq_true rfl) (okc_r rfl rfl (oK hK o33)) (g94 hK hX (by decide) p16 (Bk_v ?_))
      refine r_ifP (P := ¬ (wdL (M 34) p14 e15 = wL 12)) c25_32 bI_eq (fun hc17 => ?_) (fun hc17 => ?_)
      · replace h := h.1 hc17
        refine r_aload_n c25_39 rfl ?_
        refine r_ldcs c25_40 ?_
        obtain ⟨n19, h⟩ := h
        obtain ⟨p20, h⟩ := h
        obtain ⟨e21, h⟩ := h
        obtain ⟨p22, h⟩ := h
        refine r_call c25_42 rfl rfl (Nat.le_of_ble_eq_true rfl) (okc_r rfl rfl (oK hK o33)) (g94 hK hX (by decide) p22 (Bk_v ?_))
        refine r_ifP (P := ¬ (wdL (M 34) p20 e21 = wL 13)) c25_45 bI_eq (fun hc23 => ?_) (fun hc23 => ?_)
        · replace h := h.1 hc23
          refine r_aload_n c25_52 rfl ?_
          refine r_ldcs c25_53 ?_
          obtain ⟨n25, h⟩ := h
          obtain ⟨p26, h⟩ := h
          obtain ⟨e27, h⟩ := h
          obtain ⟨p28, h⟩ := h
          refine r_call c25_55 rfl rfl (Nat.le_of_ble_eq_true rfl) (okc_r rfl rfl (oK hK o33)) (g94 hK hX (by decide) p28 (Bk_v ?_))
          refine r_ifP (P := ¬ (wdL (M 34) p26 e27 = wL 14)) c25_58 bI_eq (fun hc29 => ?_) (fun hc29 => ?_)
          · replace h := h.1 hc29
            refine r_aload_n c25_65 rfl ?_
            refine r_ldcs c25_66 ?_
            obtain ⟨n31, h⟩ := h
            obtain ⟨p32, h⟩ := h
            obtain ⟨e33, h⟩ := h
            obtain ⟨p34, h⟩ := h
            refine r_call c25_68 rfl rfl (Nat.le_of_ble_eq_true rfl) (okc_r rfl rfl (oK hK o33)) (g94 hK hX (by decide) p34 (Bk_v ?_))
            refine r_ifP (P := ¬ (wdL (M 34) p32 e33 = wL 15)) c25_71 bI_eq (fun hc35 => ?_) (fun hc35 => ?_)
            · replace h := h.1 hc35
              refine r_aload_n c25_78 rfl ?_
              refine r_ldcs c25_79 ?_
              obtain ⟨n37, h⟩ := h
              obtain ⟨p38, h⟩ := h
              obtain ⟨e39, h⟩ := h
              obtain ⟨p40, h⟩ := h
              refine r_call c25_81 rfl rfl (Nat.le_of_ble_eq_true rfl) (okc_r rfl rfl (oK hK o33)) (g94 hK hX (by decide) p40 (Bk_v ?_))
              refine r_ifP (P := ¬ (wdL (M 34) p38 e39 = wL 16)) c25_84 bI_eq (fun hc41 => ?_) (fun hc41 => ?_)
              · replace h := h.1 hc41
                refine r_aload_n c25_92 rfl ?_
                refine r_ldcs c25_93 ?_
                obtain ⟨n43, h⟩ := h
                obtain ⟨p44, h⟩ := h
                obtain ⟨e45, h⟩ := h
                obtain ⟨p46, h⟩ := h
                refine r_call c25_95 rfl rfl (Nat.le_of_ble_eq_true rfl) (okc_r rfl rfl (oK hK o33)) (g94 hK hX (by decide) p46 (Bk_v ?_))
                refine r_ifP (P := ¬ (wdL (M 34) p44 e45 = wL 17)) c25_98 bI_eq (fun hc47 => ?_) (fun hc47 => ?_)
                · replace h := h.1 hc47
                  refine r_iconst c25_106 ?_
                  exact r_iret c25_107 (Or.inl rfl) h
                · have hc48 := Classical.not_not.mp hc47
                  replace h := h.2 hc48
                  refine r_bipush c25_101 ?_
                  refine r_goto c25_103 ?_
                  exact r_iret c25_107 (Or.inl rfl) h
              · have hc42 := Classical.not_not.mp hc41
                replace h := h.2 hc42
                refine r_bipush c25_87 ?_
                refine r_goto c25_89 ?_
                exact r_iret c25_107 (Or.inl rfl) h
            · have hc36 := Classical.not_not.mp hc35
              replace h := h.2 hc36
              refine r_iconst c25_74 ?_
              refine r_goto c25_75 ?_
              exact r_iret c25_107 (Or.inl rfl) h
          · have hc30 := Classical.not_not.mp hc29
            replace h := h.2 hc30
            refine r_iconst c25_61 ?_
            refine r_goto c25_62 ?_
            exact r_iret c25_107 (Or.inl rfl) h
        · have hc24 := Classical.not_not.mp hc23
          replace h := h.2 hc24
          refine r_iconst c25_48 ?_
          refine r_goto c25_49 ?_
          exact r_iret c25_107 (Or.inl rfl) h
      · have hc18 := Classical.not_not.mp hc17
        replace h := h.2 hc18
        refine r_iconst c25_35 ?_
        refine r_goto c25_36 ?_
        exact r_iret c25_107 (Or.inl rfl) h
    · have hc12 := Classical.not_not.mp hc11
      replace h := h.2 hc12
      refine r_iconst c25_22 ?_
      refine r_goto c25_23 ?_
      exact r_iret c25_107 (Or.inl rfl) h
  · have hc6 := Classical.not_not.mp hc5
    replace h := h.2 hc6
    refine r_iconst c25_9 ?_
    refine r_goto c25_10 ?_
    exact r_iret c25_107 (Or.inl rfl) h
theorem u27_0 {d : Nat} {l0 : Int} {l1 : Int} {l2 : Int} {M : Mem} {K : KK} {Q : RR → Mem → KK → Prop} (hK : K.1 = 923) (hX : FX M)  (h : (l0 = (2000 : Int) → Q (.inl (some (vI (w32 (l1 + l2))))) M K) ∧ (l0 = (2001 : Int) → Q (.inl (some (vI (w32 (l1 - l2))))) M K) ∧ (l0 = (2002 : Int) → Q (.inl (some (vI (w32 (l1 * l2))))) M K) ∧ (l0 = (2003 : Int) → (¬ l2 = (0 : Int) → l2 ≠ 0 ∧ Q (.inl (some (vI (w32 (Int.tdiv l1 l2))))) M K) ∧ (l2 = (0 : Int) → Q (.inl (some (vI (0 : Int)))) M K)) ∧ (l0 = (2004 : Int) → (¬ l2 = (0 : Int) → l2 ≠ 0 ∧ Q (.inl (some (vI (Int.tmod l1 l2)))) M K) ∧ (l2 = (0 : Int) → Q (.inl (some (vI (0 : Int)))) M K)) ∧ (l0 = (2005 : Int) → (l2 ≤ l1 → Q (.inl (some (vI l2))) M K) ∧ (¬ (l2 ≤ l1) → Q (.inl (some (vI l1))) M K)) ∧ (l0 < (2000 : Int) ∨ (2005 : Int) < l0 → (l1 ≤ l2 → Q (.inl (some (vI l2))) M K) ∧ (¬ (l1 ≤ l2) → Q (.inl (some (vI l1))) M K))) : Wp d 27 0 [vI l0, vI l1, vI l2] [] M K Q := by
  refine r_iload_n c27_0 rfl ?_
  refine r_tsw c27_1 ?_
  by_cases hv0 : l0 = (2000 : Int)
  · rw [show tsw 1 86 2000 2005 #[39, 43, 47, 51, 63, 75] l0 = 40 from by rw [hv0]; decide]
    replace h := h.1 hv0
    refine r_iload_n c27_40 rfl ?_
    refine r_iload_n c27_41 rfl ?_
    refine r_iadd c27_42 ?_
    exact r_iret c27_43 (Or.inl rfl) h
  by_cases hv1 : l0 = (2001 : Int)
  · rw [show tsw 1 86 2000 2005 #[39, 43, 47, 51, 63, 75] l0 = 44 from by rw [hv1]; decide]
    replace h := h.2.1 hv1
    refine r_iload_n c27_44 rfl ?_
    refine r_iload_n c27_45 rfl ?_
    refine r_isub c27_46 ?_
    exact r_iret c27_47 (Or.inl rfl) h
  by_cases hv2 : l0 = (2002 : Int)
  · rw [show tsw 1 86 2000 2005 #[39, 43, 47, 51, 63, 75] l0 = 48 from by rw [hv2]; decide]
    replace h := h.2.2.1 hv2
    refine r_iload_n c27_48 rfl ?_
    refine r_iload_n c27_49 rfl ?_
    refine r_imul c27_50 ?_
    exact r_iret c27_51 (Or.inl rfl) h
  by_cases hv3 : l0 = (2003 : Int)
  · rw [show tsw 1 86 2000 2005 #[39, 43, 47, 51, 63, 75] l0 = 52 from by rw [hv3]; decide]
    replace h := h.2.2.2.1 hv3
    refine r_iload_n c27_52 rfl ?_
    refine r_ifP (P := ¬ l2 = (0 : Int)) c27_53 rfl (fun hc1 => ?_) (fun hc1 => ?_)
    · replace h := h.1 hc1
      refine r_iload_n c27_60 rfl ?_
      refine r_iload_n c27_61 rfl ?_
      obtain ⟨s3, h⟩ := h
      refine r_idiv c27_62 s3 ?_
      exact r_iret c27_63 (Or.inl rfl) h
    · have hc2 := Classical.not_not.mp hc1
      replace h := h.2 hc2
      refine r_iconst c27_56 ?_
      refine r_goto c27_57 ?_
      exact r_iret c27_63 (Or.inl rfl) h
  by_cases hv4 : l0 = (2004 : Int)
  · rw [show tsw 1 86 2000 2005 #[39, 43, 47, 51, 63, 75] l0 = 64 from by rw [hv4]; decide]
    replace h := h.2.2.2.2.1 hv4
    refine r_iload_n c27_64 rfl ?_
    refine r_ifP (P := ¬ l2 = (0 : Int)) c27_65 rfl (fun hc4 => ?_) (fun hc4 => ?_)
    · replace h := h.1 hc4
      refine r_iload_n c27_72 rfl ?_
      refine r_iload_n c27_73 rfl ?_
      obtain ⟨s6, h⟩ := h
      refine r_irem c27_74 s6 ?_
      exact r_iret c27_75 (Or.inl rfl) h
    · have hc5 := Classical.not_not.mp hc4
      replace h := h.2 hc5
      refine r_iconst c27_68 ?_
      refine r_goto c27_69 ?_
      exact r_iret c27_75 (Or.inl rfl) h
  by_cases hv5 : l0 = (2005 : Int)
  · rw [show tsw 1 86 2000 2005 #[39, 43, 47, 51, 63, 75] l0 = 76 from by rw [hv5]; decide]
    replace h := h.2.2.2.2.2.1 hv5
    refine r_iload_n c27_76 rfl ?_
    refine r_iload_n c27_77 rfl ?_
    refine r_icmpP (P := l2 ≤ l1) c27_78 rfl (fun hc7 => ?_) (fun hc7 => ?_)
    · replace h := h.1 hc7
      refine r_iload_n c27_85 rfl ?_
      exact r_iret c27_86 (Or.inl rfl) h
    · replace h := h.2 hc7
      refine r_iload_n c27_81 rfl ?_
      refine r_goto c27_82 ?_
      exact r_iret c27_86 (Or.inl rfl) h
  have hvd : l0 < (2000 : Int) ∨ (2005 : Int) < l0 := by omega
  rw [show tsw 1 86 2000 2005 #[39, 43, 47, 51, 63, 75] l0 = 87 from by unfold tsw; rw [if_pos hvd]; decide]
  replace h := h.2.2.2.2.2.2 hvd
  refine r_iload_n c27_87 rfl ?_
  refine r_iload_n c27_88 rfl ?_
  refine r_icmpP (P := l1 ≤ l2) c27_89 rfl (fun hc8 => ?_) (fun hc8 => ?_)
  · replace h := h.1 hc8
    refine r_iload_n c27_96 rfl ?_
    exact r_iret c27_97 (Or.inl rfl) h
  · replace h := h.2 hc8
    refine r_iload_n c27_92 rfl ?_
    refine r_goto c27_93 ?_
    exact r_iret c27_97 (Or.inl rfl) h
section LA
variable {d : Nat} {M : Mem} {K : KK} {Q : RR → Mem → KK → Prop} {B : BY} {n : Nat} {st : ST}
theorem g27 {s a b : Int} (hK : K.1 = 923) (hX : FX M) (h : ∃ c : Int, 2 ≤ c ∧ c ≤ 8 ∧ s = 1998 + c ∧ ∀ r, r = opV c a b → Q (.inl (some (vI r))) M K) : Wm d 27 [vI s, vI a, vI b] M K Q := by
  obtain ⟨c, h1, h2, rfl, k⟩ := h
  refine u27_0 hK hX ⟨fun e => ?_, fun e => ?_, fun e => ?_, fun e => ⟨fun hb => ⟨hb, ?_⟩, fun hb => ?_⟩, fun e => ⟨fun hb => ⟨hb, ?_⟩, fun hb => ?_⟩, fun e => ⟨fun hb => ?_, fun hb => ?_⟩, fun e => ⟨fun hb => ?_, fun hb => ?_⟩⟩
  · have : c = 2 := by omega
    subst this; exact k _ rfl
  · have : c = 3 := by omega
    subst this; exact k _ rfl
  · have : c = 4 := by omega
    subst this; exact k _ rfl
  · have : c = 5 := by omega
    subst this; exact k _ (by simp [opV, hb])
  · have : c = 5 := by omega
    subst this; exact k _ (by simp [opV, hb])
  · have : c = 6 := by omega
    subst this; exact k _ (by simp [opV, hb])
  · have : c = 6 := by omega
    subst this; exact k _ (by simp [opV, hb])
  · have : c = 7 := by omega
    subst this; exact k _ (by simp only [opV]; simp; omega)
  · have : c = 7 := by omega
    subst this; exact k _ (by simp only [opV]; simp; omega)
  · have : c = 8 := by omega
    subst this; exact k _ (by simp only [opV]; simp; omega)
  · have : c = 8 := by omega
    subst this; exact k _ (by simp only [opV]; simp; omega)
/-- only the codes and their number have changed -/
def FrC (l : Nat) (M M' : Mem) : Prop := ∀ a k, a ≠ l + 2 → ¬ (a = l ∧ k = 3) → M' a k = M a k
theorem FrC.fx {l : Nat} {M M' : Mem} (hl : isO 923 l 2 = true) (h : FrC l M M') (hX : FX M) : FX M' := hX.fr (fun a k hk => h a k (by
  rintro rfl
  have := nfa (q2_1 hl) k
  omega) (by
  rintro ⟨rfl, rfl⟩
  have := nf2 hl (k := 3) (by decide)
  omega))
theorem getD_snoc {L : LC} {c : Int × Int} {i : Nat} (h : i < L.length + 1) : (L ++ [c]).getD i (0, 0) = if i = L.length then c else L.getD i (0, 0) := by
  split
  · rename_i e; subst e; simp
  · rw [List.getD_eq_getElem?_getD, List.getElem?_append_left (by omega), ← List.getD_eq_getElem?_getD]
/-- a code more; where the codes are not known (L is none), only their bounds are kept -/
def CRo (M : Mem) (l : Nat) : Option LC → Prop
  | some L => CR M l L
  | none => 0 ≤ M l 3 ∧ M l 3 ≤ 150
theorem g20 {l : Nat} {s : Int} {o : Option LC} (hK : K.1 = 923) (hX : FX M) (hl : isO 923 l 2 = true) (h : CRo M l o) (k : ∀ M', FX M' → (FrC l M M' ∧ ∀ o' : Option LC, (o' = none ∨ ∃ L c, o = some L ∧ o' = some (L ++ [c]) ∧ L.length < 150 ∧ s = encC c) → CRo M' l o') → Q (.inl none) M' K) : Wm d 20 [vR l, vI s] M K Q := by
  have hb : 0 ≤ M l 3 ∧ M l 3 ≤ 150 := by
    cases o with
    | none => exact h
    | some L => have := h.1; have := h.2.1; omega
  refine u20_0 hK hX hl ⟨fun hge => k M hX ⟨fun _ _ _ _ => rfl, fun o' ho => ?_⟩, fun hlt => ⟨by omega, ?_⟩⟩
  · rcases ho with rfl | ⟨L, c, rfl, rfl, h1, -⟩
    · exact hb
    · have := h.1; omega
  · have hne : l ≠ l + 2 := by omega
    have e3 : (mset (mset M (l + 2) (Int.toNat (M l 3)) s) l 3 (w32 (M l 3 + 1))) l 3 = M l 3 + 1 := by
      rw [ms_eq, w32_id (by omega)]
    have hf : FrC l M (mset (mset M (l + 2) (Int.toNat (M l 3)) s) l 3 (w32 (M l 3 + 1))) := by
      intro a k' h1 h2
      simp only [mset]
      rw [if_neg h2, if_neg (fun q => h1 q.1)]
    refine k _ (hf.fx hl hX) ⟨hf, fun o' ho => ?_⟩
    rcases ho with rfl | ⟨L, c, rfl, rfl, h1, hs⟩
    · refine ⟨?_, ?_⟩ <;> rw [e3] <;> omega
    · obtain ⟨h2, h3, h4⟩ := h
      refine ⟨by rw [e3, h2]; simp, by simp; omega, fun i hi => ?_⟩
      simp only [List.length_append, List.length_cons, List.length_nil] at hi
      rw [ms_na (by omega), getD_snoc (by omega), h2, Int.toNat_natCast]
      by_cases hii : i = L.length
      · subst hii; rw [if_pos rfl, ms_eq]; exact hs
      · rw [if_neg hii, ms_nk hii]; exact h4 i (by omega)
end LA
theorem g27r {d : Nat} {M : Mem} {K : KK} {Q : RR → Mem → KK → Prop} {c s a b : Int} (hK : K.1 = 923) (hX : FX M) (h : 2 ≤ c ∧ c ≤ 8 ∧ s = 1998 + c) (k : Q (.inl (some (vI (opV c a b)))) M K) : Wm d 27 [vI s, vI a, vI b] M K Q := g27 hK hX ⟨c, h.1, h.2.1, h.2.2, fun r e => e ▸ k⟩
/-- the number of a word among names; -1 if it is none of these -/
def nmOf (w : List Int) : List Nat → Int → Int
  | [], _ => -1
  | s :: r, i => if w = wL s then i else nmOf w r (i + 1)
theorem u18_0 {d : Nat} {l0 : Nat} {M : Mem} {K : KK} {Q : RR → Mem → KK → Prop} (hK : K.1 = 923) (hX : FX M) (k0 : isO 923 l0 2 = true) (h : ∃ o2 : Option LC, CRo (mset M l0 3 (0 : Int)) l0 o2 ∧ (∀ (M6 : Mem), FX M6 → (FrC l0 (mset M l0 3 (0 : Int)) M6 ∧ ∀ o' : Option LC, (o' = none ∨ ∃ L c, o2 = some L ∧ o' = some (L ++ [c]) ∧ L.length < 150 ∧ (1000 : Int) = encC c) → CRo M6 l0 o') → ∃ o7 : Option LC, CRo M6 l0 o7 ∧ (∀ (M11 : Mem), FX M11 → (FrC l0 M6 M11 ∧ ∀ o' : Option LC, (o' = none ∨ ∃ L c, o7 = some L ∧ o' = some (L ++ [c]) ∧ L.length < 150 ∧ (1001 : Int) = encC c) → CRo M11 l0 o') → ∃ o12 : Option LC, CRo M11 l0 o12 ∧ (∀ (M16 : Mem), FX M16 → (FrC l0 M11 M16 ∧ ∀ o' : Option LC, (o' = none ∨ ∃ L c, o12 = some L ∧ o' = some (L ++ [c]) ∧ L.length < 150 ∧ (2003 : Int) = encC c) → CRo M16 l0 o') → ∃ o17 : Option LC, CRo M16 l0 o17 ∧ (∀ (M21 : Mem), FX M21 → (FrC l0 M16 M21 ∧ ∀ o' : Option LC, (o' = none ∨ ∃ L c, o17 = some L ∧ o' = some (L ++ [c]) ∧ L.length < 150 ∧ (1003 : Int) = encC c) → CRo M21 l0 o') → ∃ o22 : Option LC, CRo M21 l0 o22 ∧ (∀ (M26 : Mem), FX M26 → (FrC l0 M21 M26 ∧ ∀ o' : Option LC, (o' = none ∨ ∃ L c, o22 = some L ∧ o' = some (L ++ [c]) ∧ L.length < 150 ∧ (2000 : Int) = encC c) → CRo M26 l0 o') → ∃ o27 : Option LC, CRo M26 l0 o27 ∧ (∀ (M31 : Mem), FX M31 → (FrC l0 M26 M31 ∧ ∀ o' : Option LC, (o' = none ∨ ∃ L c, o27 = some L ∧ o' = some (L ++ [c]) ∧ L.length < 150 ∧ (1004 : Int) = encC c) → CRo M31 l0 o') → ∃ o32 : Option LC, CRo M31 l0 o32 ∧ (∀ (M36 : Mem), FX M36 → (FrC l0 M31 M36 ∧ ∀ o' : Option LC, (o' = none ∨ ∃ L c, o32 = some L ∧ o' = some (L ++ [c]) ∧ L.length < 150 ∧ (2 : Int) = encC c) → CRo M36 l0 o') → ∃ o37 : Option LC, CRo M36 l0 o37 ∧ (∀ (M41 : Mem), FX M41 → (FrC l0 M36 M41 ∧ ∀ o' : Option LC, (o' = none ∨ ∃ L c, o37 = some L ∧ o' = some (L ++ [c]) ∧ L.length < 150 ∧ (2002 : Int) = encC c) → CRo M41 l0 o') → ∃ o42 : Option LC, CRo M41 l0 o42 ∧ (∀ (M46 : Mem), FX M46 → (FrC l0 M41 M46 ∧ ∀ o' : Option LC, (o' = none ∨ ∃ L c, o42 = some L ∧ o' = some (L ++ [c]) ∧ L.length < 150 ∧ (2000 : Int) = encC c) → CRo M46 l0 o') → Q (.inl none) M46 K)))))))))) : Wp (d + 1) 18 0 [vR l0] [] M K Q := by
  refine r_aload_n c18_0 rfl ?_
  refine r_iconst c18_1 ?_
  refine r_putI c18_2 (oK hK k0) ?_
  have x1 := FX.set (v := (0 : Int)) (a := l0) (k := 3) hX (nf2 k0 (by decide))
  refine r_aload_n c18_5 rfl ?_
  refine r_sipush c18_6 ?_
  obtain ⟨o2, h⟩ := h
  obtain ⟨p3, h⟩ := h
  refine r_call c18_9 rfl rfl (Nat.le_of_ble_eq_true rfl) (okc_r rfl rfl (oK hK k0)) (g20 hK x1 k0 p3 (fun M6 x4 p5 => Bk_n ?_))
  replace h := h M6 x4 p5
  refine r_aload_n c18_12 rfl ?_
  refine r_sipush c18_13 ?_
  obtain ⟨o7, h⟩ := h
  obtain ⟨p8, h⟩ := h
  refine r_call c18_16 rfl rfl (Nat.le_of_ble_eq_true rfl) (okc_r rfl rfl (oK hK k0)) (g20 hK x4 k0 p8 (fun M11 x9 p10 => Bk_n ?_))
  replace h := h M11 x9 p10
  refine r_aload_n c18_19 rfl ?_
  refine r_sipush c18_20 ?_
  obtain ⟨o12, h⟩ := h
  obtain ⟨p13, h⟩ := h
  refine r_call c18_23 rfl rfl (Nat.le_of_ble_eq_true rfl) (okc_r rfl rfl (oK hK k0)) (g20 hK x9 k0 p13 (fun M16 x14 p15 => Bk_n ?_))
  replace h := h M16 x14 p15
  refine r_aload_n c18_26 rfl ?_
  refine r_sipush c18_27 ?_
  obtain ⟨o17, h⟩ := h
  obtain ⟨p18, h⟩ := h
  refine r_call c18_30 rfl rfl (Nat.le_of_ble_eq_true rfl) (okc_r rfl rfl (oK hK k0)) (g20 hK x14 k0 p18 (fun M21 x19 p20 => Bk_n ?_))
  replace h := h M21 x19 p20
  refine r_aload_n c18_33 rfl ?_
  refine r_sipush c18_34 ?_
  obtain ⟨o22, h⟩ := h
  obtain ⟨p23, h⟩ := h
  refine r_call c18_37 rfl rfl (Nat.le_of_ble_eq_true rfl) (okc_r rfl rfl (oK hK k0)) (g20 hK x19 k0 p23 (fun M26 x24 p25 => Bk_n ?_))
  replace h := h M26 x24 p25
  refine r_aload_n c18_40 rfl ?_
  refine r_sipush c18_41 ?_
  obtain ⟨o27, h⟩ := h
  obtain ⟨p28, h⟩ := h
  refine r_call c18_44 rfl rfl (Nat.le_of_ble_eq_true rfl) (okc_r rfl rfl (oK hK k0)) (g20 hK x24 k0 p28 (fun M31 x29 p30 => Bk_n ?_))
  replace h := h M31 x29 p30
  refine r_aload_n c18_47 rfl ?_
  refine r_iconst c18_48 ?_
  obtain ⟨o32, h⟩ := h
  obtain ⟨p33, h⟩ := h
  refine r_call c18_49 rfl rfl (Nat.le_of_ble_eq_true rfl) (okc_r rfl rfl (oK hK k0)) (g20 hK x29 k0 p33 (fun M36 x34 p35 => Bk_n ?_))
  replace h := h M36 x34 p35
  refine r_aload_n c18_52 rfl ?_
  refine r_sipush c18_53 ?_
  obtain ⟨o37, h⟩ := h
  obtain ⟨p38, h⟩ := h
  refine r_call c18_56 rfl rfl (Nat.le_of_ble_eq_true rfl) (okc_r rfl rfl (oK hK k0)) (g20 hK x34 k0 p38 (fun M41 x39 p40 => Bk_n ?_))
  replace h := h M41 x39 p40
  refine r_aload_n c18_59 rfl ?_
  refine r_sipush c18_60 ?_
  obtain ⟨o42, h⟩ := h
  obtain ⟨p43, h⟩ := h
  refine r_call c18_63 rfl rfl (Nat.le_of_ble_eq_true rfl) (okc_r rfl rfl (oK hK k0)) (g20 hK x39 k0 p43 (fun M46 x44 p45 => Bk_n ?_))
  replace h := h M46 x44 p45
  exact r_ret c18_66 h
theorem u26_0 {d : Nat} {l0 : Nat} {M : Mem} {K : KK} {Q : RR → Mem → KK → Prop} (hK : K.1 = 923) (hX : FX M) (k0 : isO 923 l0 2 = true) (h : Wp (d + 1) 26 4 [vR l0, vI (0 : Int), vI (0 : Int), vU] [] M K Q) : Wp (d + 1) 26 0 [vR l0, vU, vU, vU] [] M K Q := by
  refine r_iconst c26_0 ?_
  refine r_istore_n c26_1 (Nat.le_of_ble_eq_true rfl) ?_
  refine r_iconst c26_2 ?_
  refine r_istore_n c26_3 (Nat.le_of_ble_eq_true rfl) ?_
  exact h
theorem u26_4 {d : Nat} {l0 : Nat} {l1 : Int} {l2 : Int} {l3 : PV} {M : Mem} {K : KK} {Q : RR → Mem → KK → Prop} (hK : K.1 = 923) (hX : FX M) (k0 : isO 923 l0 2 = true) (h : ((M l0 3) ≤ l2 → (¬ l1 = (0 : Int) → Q (.inl (some (vI (jmax (0 : Int) (jmin (99 : Int) (M (l0 + 3) 0)))))) M K) ∧ (l1 = (0 : Int) → Q (.inl (some (vI (0 : Int)))) M K)) ∧ (¬ ((M l0 3) ≤ l2) → (0 ≤ l2 ∧ l2 < (150 : Int)) ∧ ((M (l0 + 2) (Int.toNat l2)) < (2000 : Int) → ((150 : Int) ≤ l1 → Wp (d + 1) 26 4 [vR l0, vI l1, vI (w32 (l2 + 1)), vI (M (l0 + 2) (Int.toNat l2))] [] M K Q) ∧ (¬ ((150 : Int) ≤ l1) → ((1000 : Int) ≤ (M (l0 + 2) (Int.toNat l2)) → (0 ≤ (w32 ((M (l0 + 2) (Int.toNat l2)) - (1000 : Int))) ∧ (w32 ((M (l0 + 2) (Int.toNat l2)) - (1000 : Int))) < (8 : Int)) ∧ (0 ≤ l1 ∧ l1 < (150 : Int)) ∧ Wp (d + 1) 26 4 [vR l0, vI (w32 (l1 + 1)), vI (w32 (l2 + 1)), vI (M (l0 + 2) (Int.toNat l2))] [] (mset M (l0 + 3) (Int.toNat l1) (M (l0 + 1) (Int.toNat (w32 ((M (l0 + 2) (Int.toNat l2)) - (1000 : Int)))))) K Q) ∧ (¬ ((1000 : Int) ≤ (M (l0 + 2) (Int.toNat l2))) → (0 ≤ l1 ∧ l1 < (150 : Int)) ∧ Wp (d + 1) 26 4 [vR l0, vI (w32 (l1 + 1)), vI (w32 (l2 + 1)), vI (M (l0 + 2) (Int.toNat l2))] [] (mset M (l0 + 3) (Int.toNat l1) (M (l0 + 2) (Int.toNat l2))) K Q))) ∧ (¬ ((M (l0 + 2) (Int.toNat l2)) < (2000 : Int)) → ((2 : Int) ≤ l1 → (0 ≤ (w32 ((w32 (l1 + (-1))) - (1 : Int))) ∧ (w32 ((w32 (l1 + (-1))) - (1 : Int))) < (150 : Int)) ∧ (0 ≤ (w32 (l1 + (-1))) ∧ (w32 (l1 + (-1))) < (150 : Int)) ∧ ∃ c16 : Int, (2 ≤ c16 ∧ c16 ≤ 8 ∧ (M (l0 + 2) (Int.toNat l2)) = 1998 + c16) ∧ (0 ≤ (w32 ((w32 (l1 + (-1))) - (1 : Int))) ∧ (w32 ((w32 (l1 + (-1))) - (1 : Int))) < (150 : Int)) ∧ Wp (d + 1) 26 4 [vR l0, vI (w32 (l1 + (-1))), vI (w32 (l2 + 1)), vI (M (l0 + 2) (Int.toNat l2))] [] (mset M (l0 + 3) (Int.toNat (w32 ((w32 (l1 + (-1))) - (1 : Int)))) (opV c16 (M (l0 + 3) (Int.toNat (w32 ((w32 (l1 + (-1))) - (1 : Int))))) (M (l0 + 3) (Int.toNat (w32 (l1 + (-1))))))) K Q) ∧ (¬ ((2 : Int) ≤ l1) → Q (.inl (some (vI (0 : Int)))) M K)))) : Wp (d + 1) 26 4 [vR l0, vI l1, vI l2, l3] [] M K Q := by
  refine r_iload_n c26_4 rfl ?_
  refine r_aload_n c26_5 rfl ?_
  refine r_getIe c26_6 (oK hK k0) rfl ?_
  refine r_icmpP (P := (M l0 3) ≤ l2) c26_9 rfl (fun hc1 => ?_) (fun hc1 => ?_)
  · replace h := h.1 hc1
    refine r_iload_n c26_110 rfl ?_
    refine r_ifP (P := ¬ l1 = (0 : Int)) c26_111 rfl (fun hc2 => ?_) (fun hc2 => ?_)
    · replace h := h.1 hc2
      refine r_iconst c26_118 ?_
      refine r_bipush c26_119 ?_
      refine r_aload_n c26_121 rfl ?_
      refine r_getR c26_122 (oK hK k0) (fx2_2 hX k0) (by omega) ?_
      refine r_iconst c26_125 ?_
      refine r_iae c26_126 (oK hK (q2_2 k0)) (bd (z2_2 k0) (by decide)) rfl ?_
      refine r_min c26_127 (Nat.le_of_ble_eq_true rfl) ?_
      refine r_max c26_130 (Nat.le_of_ble_eq_true rfl) ?_
      exact r_iret c26_133 (Or.inl rfl) h
    · have hc3 := Classical.not_not.mp hc2
      replace h := h.2 hc3
      refine r_iconst c26_114 ?_
      refine r_goto c26_115 ?_
      exact r_iret c26_133 (Or.inl rfl) h
  · replace h := h.2 hc1
    refine r_aload_n c26_12 rfl ?_
    refine r_getR c26_13 (oK hK k0) (fx2_1 hX k0) (by omega) ?_
    refine r_iload_n c26_16 rfl ?_
    obtain ⟨s4, h⟩ := h
    refine r_iae c26_17 (oK hK (q2_1 k0)) (bd (z2_1 k0) s4) rfl ?_
    refine r_istore_n c26_18 (Nat.le_of_ble_eq_true rfl) ?_
    refine r_iload_n c26_19 rfl ?_
    refine r_sipush c26_20 ?_
    refine r_icmpP (P := (M (l0 + 2) (Int.toNat l2)) < (2000 : Int)) c26_23 rfl (fun hc5 => ?_) (fun hc5 => ?_)
    · replace h := h.1 hc5
      refine r_iload_n c26_65 rfl ?_
      refine r_aload_n c26_66 rfl ?_
      refine r_getR c26_67 (oK hK k0) (fx2_2 hX k0) (by omega) ?_
      refine r_alene c26_70 (mal (q2_2 k0) rfl hK) (z2_2 k0) ?_
      refine r_icmpP (P := (150 : Int) ≤ l1) c26_71 rfl (fun hc6 => ?_) (fun hc6 => ?_)
      · replace h := h.1 hc6
        refine r_iinc c26_104 rfl ?_
        refine r_goto c26_107 ?_
        exact h
      · replace h := h.2 hc6
        refine r_aload_n c26_74 rfl ?_
        refine r_getR c26_75 (oK hK k0) (fx2_2 hX k0) (by omega) ?_
        refine r_iload_n c26_78 rfl ?_
        refine r_iload_n c26_79 rfl ?_
        refine r_sipush c26_80 ?_
        refine r_icmpP (P := (1000 : Int) ≤ (M (l0 + 2) (Int.toNat l2))) c26_83 rfl (fun hc7 => ?_) (fun hc7 => ?_)
        · replace h := h.1 hc7
          refine r_aload_n c26_90 rfl ?_
          refine r_getR c26_91 (oK hK k0) (fx2_0 hX k0) (by omega) ?_
          refine r_iload_n c26_94 rfl ?_
          refine r_sipush c26_95 ?_
          refine r_isub c26_98 ?_
          obtain ⟨s8, h⟩ := h
          refine r_iae c26_99 (oK hK (q2_0 k0)) (bd (z2_0 k0) s8) rfl ?_
          obtain ⟨s9, h⟩ := h
          refine r_ias c26_100 (oK hK (q2_2 k0)) (bd (z2_2 k0) s9) ?_
          have x10 := FX.set (v := (M (l0 + 1) (Int.toNat (w32 ((M (l0 + 2) (Int.toNat l2)) - (1000 : Int)))))) (a := (l0 + 3)) (k := (Int.toNat l1)) hX (nfa (q2_2 k0) _)
          refine r_iinc c26_101 rfl ?_
          refine r_iinc c26_104 rfl ?_
          refine r_goto c26_107 ?_
          exact h
        · replace h := h.2 hc7
          refine r_iload_n c26_86 rfl ?_
          refine r_goto c26_87 ?_
          obtain ⟨s11, h⟩ := h
          refine r_ias c26_100 (oK hK (q2_2 k0)) (bd (z2_2 k0) s11) ?_
          have x12 := FX.set (v := (M (l0 + 2) (Int.toNat l2))) (a := (l0 + 3)) (k := (Int.toNat l1)) hX (nfa (q2_2 k0) _)
          refine r_iinc c26_101 rfl ?_
          refine r_iinc c26_104 rfl ?_
          refine r_goto c26_107 ?_
          exact h
    · replace h := h.2 hc5
      refine r_iload_n c26_26 rfl ?_
      refine r_iconst c26_27 ?_
      refine r_icmpP (P := (2 : Int) ≤ l1) c26_28 rfl (fun hc13 => ?_) (fun hc13 => ?_)
      · replace h := h.1 hc13
        refine r_iinc c26_33 rfl ?_
        refine r_aload_n c26_36 rfl ?_
        refine r_getR c26_37 (oK hK k0) (fx2_2 hX k0) (by omega) ?_
        refine r_iload_n c26_40 rfl ?_
        refine r_iconst c26_41 ?_
        refine r_isub c26_42 ?_
        refine r_iload_n c26_43 rfl ?_
        refine r_aload_n c26_44 rfl ?_
        refine r_getR c26_45 (oK hK k0) (fx2_2 hX k0) (by omega) ?_
        refine r_iload_n c26_48 rfl ?_
        refine r_iconst c26_49 ?_
        refine r_isub c26_50 ?_
        obtain ⟨s14, h⟩ := h
        refine r_iae c26_51 (oK hK (q2_2 k0)) (bd (z2_2 k0) s14) rfl ?_
        refine r_aload_n c26_52 rfl ?_
        refine r_getR c26_53 (oK hK k0) (fx2_2 hX k0) (by omega) ?_
        refine r_iload_n c26_56 rfl ?_
        obtain ⟨s15, h⟩ := h
        refine r_iae c26_57 (oK hK (q2_2 k0)) (bd (z2_2 k0) s15) rfl ?_
        obtain ⟨c16, h⟩ := h
        obtain ⟨p17, h⟩ := h
        refine r_call c26_58 rfl rfl (Nat.le_of_ble_eq_true rfl) (okc_s rfl rfl rfl) (g27r hK hX p17 (Bk_v ?_))
        obtain ⟨s18, h⟩ := h
        refine r_ias c26_61 (oK hK (q2_2 k0)) (bd (z2_2 k0) s18) ?_
        have x19 := FX.set (v := (opV c16 (M (l0 + 3) (Int.toNat (w32 ((w32 (l1 + (-1))) - (1 : Int))))) (M (l0 + 3) (Int.toNat (w32 (l1 + (-1))))))) (a := (l0 + 3)) (k := (Int.toNat (w32 ((w32 (l1 + (-1))) - (1 : Int))))) hX (nfa (q2_2 k0) _)
        refine r_goto c26_62 ?_
        refine r_iinc c26_104 rfl ?_
        refine r_goto c26_107 ?_
        exact h
      · replace h := h.2 hc13
        refine r_iconst c26_31 ?_
        exact r_iret c26_32 (Or.inl rfl) h
section LB
variable {d : Nat} {M : Mem} {K : KK} {Q : RR → Mem → KK → Prop}
theorem FrC.rf {l : Nat} {M : Mem} : FrC l M M := fun _ _ _ _ => rfl
theorem FrC.tr {l : Nat} {M M1 M2 : Mem} (h1 : FrC l M M1) (h2 : FrC l M1 M2) : FrC l M M2 := fun a k h h' => (h2 a k h h').trans (h1 a k h h')
theorem g18 {l : Nat} (hK : K.1 = 923) (hX : FX M) (hl : isO 923 l 2 = true) (k : ∀ M', FX M' → (FrC l M M' ∧ CR M' l PL) → Q (.inl none) M' K) : Wm (d + 1) 18 [vR l] M K Q := by
  have h0 : CR (mset M l 3 0) l [] := ⟨by rw [ms_eq]; rfl, by decide, fun i hi => by simp at hi⟩
  have f0 : FrC l M (mset M l 3 0) := by
    intro a k' h1 h2
    simp only [mset]; rw [if_neg h2]
  refine u18_0 hK hX hl ⟨some [], h0, fun M1 x1 p1 => ⟨_, p1.2 (some ([] ++ [(1, 0)])) (Or.inr ⟨_, _, rfl, rfl, by decide, by decide⟩), fun M2 x2 p2 => ⟨_, p2.2 (some _) (Or.inr ⟨_, (1, 1), rfl, rfl, by decide, by decide⟩), fun M3 x3 p3 => ⟨_, p3.2 (some _) (Or.inr ⟨_, (5, 0), rfl, rfl, by decide, by decide⟩), fun M4 x4 p4 => ⟨_, p4.2 (some _) (Or.inr ⟨_, (1, 3), rfl, rfl, by decide, by decide⟩), fun M5 x5 p5 => ⟨_, p5.2 (some _) (Or.inr ⟨_, (2, 0), rfl, rfl, by decide, by decide⟩), fun M6 x6 p6 => ⟨_, p6.2 (some _) (Or.inr ⟨_, (1, 4), rfl, rfl, by decide, by decide⟩), fun M7 x7 p7 => ⟨_, p7.2 (some _) (Or.inr ⟨_, (0, 2), rfl, rfl, by decide, by decide⟩), fun M8 x8 p8 => ⟨_, p8.2 (some _) (Or.inr ⟨_, (4, 0), rfl, rfl, by decide, by decide⟩), fun M9 x9 p9 => ?_⟩⟩⟩⟩⟩⟩⟩⟩⟩
  exact k M9 x9 ⟨((((((((f0.tr p1.1).tr p2.1).tr p3.1).tr p4.1).tr p5.1).tr p6.1).tr p7.1).tr p8.1).tr p9.1, p9.2 (some _) (Or.inr ⟨_, (2, 0), rfl, rfl, by decide, by decide⟩)⟩
theorem g25 {n p e : Nat} (hK : K.1 = 923) (hX : FX M) (h : WA n M p e) (k : Q (.inl (some (vI (nmOf (wdL (M 34) p e) [10, 11, 12, 13, 14, 15, 16, 17] 0)))) M K) : Wm (d + 1) 25 [vR 33] M K Q := by
  simp only [nmOf] at k
  refine u25_0 hK hX ⟨n, p, e, h, fun h1 => ⟨n, p, e, h, fun h2 => ⟨n, p, e, h, fun h3 => ⟨n, p, e, h, fun h4 => ⟨n, p, e, h, fun h5 => ⟨n, p, e, h, fun h6 => ⟨n, p, e, h, fun h7 => ⟨n, p, e, h, fun h8 => ?_, fun h8 => ?_⟩, fun h7 => ?_⟩, fun h6 => ?_⟩, fun h5 => ?_⟩, fun h4 => ?_⟩, fun h3 => ?_⟩, fun h2 => ?_⟩, fun h1 => ?_⟩
  · rw [if_neg h1, if_neg h2, if_neg h3, if_neg h4, if_neg h5, if_neg h6, if_neg h7, if_neg h8] at k; exact k
  · rw [if_neg h1, if_neg h2, if_neg h3, if_neg h4, if_neg h5, if_neg h6, if_neg h7, if_pos h8] at k; exact k
  · rw [if_neg h1, if_neg h2, if_neg h3, if_neg h4, if_neg h5, if_neg h6, if_pos h7] at k; exact k
  · rw [if_neg h1, if_neg h2, if_neg h3, if_neg h4, if_neg h5, if_pos h6] at k; exact k
  · rw [if_neg h1, if_neg h2, if_neg h3, if_neg h4, if_pos h5] at k; exact k
  · rw [if_neg h1, if_neg h2, if_neg h3, if_pos h4] at k; exact k
  · rw [if_neg h1, if_neg h2, if_pos h3] at k; exact k
  · rw [if_neg h1, if_pos h2] at k; exact k
  · rw [if_pos h1] at k; exact k
/-- only the stack of the law l has changed -/
def FrK (l : Nat) (M M' : Mem) : Prop := ∀ a k, a ≠ l + 3 → M' a k = M a k
theorem FrK.fx {l : Nat} {M M' : Mem} (hl : isO 923 l 2 = true) (h : FrK l M M') (hX : FX M) : FX M' := hX.fr (fun a k hk => h a k (by
  rintro rfl
  have := nfa (q2_2 hl) k
  omega))
theorem FrK.up {l : Nat} {M M1 : Mem} {i : Nat} {v : Int} (h : FrK l M M1) : FrK l M (mset M1 (l + 3) i v) := by
  intro a k h1
  unfold mset
  rw [if_neg (fun q => h1 q.1)]
  exact h a k h1
theorem getD_mid {P R : LC} {c : Int × Int} : (P ++ c :: R).getD P.length (0, 0) = c := by
  rw [List.getD_eq_getElem?_getD, List.getElem?_append_right (Nat.le_refl _)]
  simp
theorem g26 {l : Nat} {L : LC} (hK : K.1 = 923) (hX : FX M) (hl : isO 923 l 2 = true) (h : CR M l L ∧ Vd L 0 1) (k : ∀ M', FX M' → FrK l M M' → Q (.inl (some (vI (clmp ((evA (M (l + 1)) L).2 0))))) M' K) : Wm (d + 1) 26 [vR l] M K Q := by
  obtain ⟨⟨hc1, hc2, hc3⟩, hv⟩ := h
  refine u26_0 hK hX hl ?_
  have key : ∀ (R P : LC) (M1 : Mem) (l3 : PV), L = P ++ R → FrK l M M1 → Vd R (evA (M (l + 1)) P).1 1 → (evA (M (l + 1)) P).1 ≤ P.length → (∀ j, j < (evA (M (l + 1)) P).1 → M1 (l + 3) j = (evA (M (l + 1)) P).2 j) → Wp (d + 1) 26 4 [vR l, vI ((evA (M (l + 1)) P).1 : Int), vI (P.length : Int), l3] [] M1 K Q := by
    intro R
    induction R with
    | nil =>
      intro P M1 l3 hL hf hd ht hs
      have hx1 := hf.fx hl hX
      simp only [List.append_nil] at hL
      subst hL
      simp only [Vd] at hd
      have e3 : M1 l 3 = (L.length : Int) := (hf l 3 (by omega)).trans hc1
      refine u26_4 hK hx1 hl ⟨fun _ => ⟨fun _ => ?_, fun h0 => by omega⟩, fun hlt => by omega⟩
      have := k M1 hx1 hf
      rw [hs 0 (by omega), jmax_eq, jmin_eq]
      unfold clmp at this; exact this
    | cons c R ih =>
      intro P M1 l3 hL hf hd ht hs
      have hx1 := hf.fx hl hX
      have hlen : L.length = P.length + (R.length + 1) := by rw [hL]; simp
      have e3 : M1 l 3 = (L.length : Int) := (hf l 3 (by omega)).trans hc1
      have ecode : M1 (l + 2) (Int.toNat (P.length : Int)) = encC c := by
        rw [Int.toNat_natCast, hf _ _ (by omega), hc3 _ (by omega), hL, getD_mid]
      simp only [Vd] at hd
      obtain ⟨hko, hd⟩ := hd
      have ih' := fun M1 l3 => ih (P ++ [c]) M1 l3 (by rw [hL]; simp)
      rw [evA_snoc] at ih'
      simp only [List.length_append, List.length_cons, List.length_nil] at ih'
      have ev : encC c = if c.1 < 2 then (if c.1 = 0 then c.2 else 1000 + c.2) else 1998 + c.1 := by
        unfold encC
        rcases hko with h | h | h
        · rw [if_pos h.1, if_pos (by omega), if_pos h.1]
        · rw [if_neg (by omega), if_pos h.1, if_pos (by omega), if_neg (by omega)]
        · rw [if_neg (by omega), if_neg (by omega), if_neg (by omega)]
      by_cases hk2 : c.1 < 2
      · rw [if_pos hk2] at hd ev
        simp only [ex, if_pos hk2] at ih'
        have hval : ∀ M2, FrK l M M2 → (∀ j, j < (evA (M (l + 1)) P).1 → M2 (l + 3) j = (evA (M (l + 1)) P).2 j) → M2 (l + 3) (evA (M (l + 1)) P).1 = (if c.1 = 0 then c.2 else M (l + 1) c.2.toNat) → Wp (d + 1) 26 4 [vR l, vI (((evA (M (l + 1)) P).1 + 1 : Nat) : Int), vI ((P.length + 1 : Nat) : Int), vI (encC c)] [] M2 K Q := by
          intro M2 f2 hs2 hv2
          refine ih' M2 _ f2 hd (by omega) (fun j hj => ?_)
          by_cases hjj : j = (evA (M (l + 1)) P).1
          · subst hjj; rw [if_pos rfl]; exact hv2
          · rw [if_neg hjj]; exact hs2 j (by omega)
        have hup : ∀ v, ∀ j, j < (evA (M (l + 1)) P).1 → mset M1 (l + 3) (Int.toNat ((evA (M (l + 1)) P).1 : Int)) v (l + 3) j = (evA (M (l + 1)) P).2 j := by
          intro v j hj
          rw [ms_nk (by omega)]; exact hs j hj
        refine u26_4 hK hx1 hl ⟨fun hge => by omega, fun hlt => ⟨by omega, fun _ => ⟨fun hbig => by omega, fun _ => ⟨fun hge => ⟨?_, by omega, ?_⟩, fun hlt0 => ⟨by omega, ?_⟩⟩⟩, fun hno => ?_⟩⟩
        · rw [ecode, ev] at hge ⊢
          rcases hko with h | h | h
          · rw [if_pos h.1] at hge; omega
          · rw [if_neg (by omega)] at hge ⊢; rw [w32_id (by omega)]; omega
          · omega
        · rw [w1 (by omega), w1 (by omega), ecode]
          refine hval _ hf.up (hup _) ?_
          rw [Int.toNat_natCast, ms_eq]
          rw [ecode, ev] at hge
          rcases hko with h | h | h
          · rw [if_pos h.1] at hge; omega
          · rw [if_neg (by omega), ev, if_neg (by omega), show 1000 + c.2 - 1000 = c.2 from by omega, w32_id (by omega)]
            exact hf _ _ (by omega)
          · omega
        · rw [w1 (by omega), w1 (by omega), ecode]
          refine hval _ hf.up (hup _) ?_
          rw [Int.toNat_natCast, ms_eq]
          rw [ecode, ev] at hlt0
          rcases hko with h | h | h
          · rw [ev, if_pos h.1, if_pos h.1]
          · rw [if_neg (by omega)] at hlt0; omega
          · omega
        · exfalso
          rw [ecode, ev] at hno
          rcases hko with h | h | h
          · rw [if_pos h.1] at hno; omega
          · rw [if_neg (by omega)] at hno; omega
          · omega
      · rw [if_neg hk2] at hd ev
        simp only [ex, if_neg hk2] at ih'
        obtain ⟨h2, hd⟩ := hd
        have hk : 2 ≤ c.1 ∧ c.1 ≤ 8 := by rcases hko with h | h | h <;> omega
        refine u26_4 hK hx1 hl ⟨fun hge => by omega, fun hlt => ⟨by omega, fun hno => ?_, fun _ => ⟨fun _ => ⟨?_, ?_, c.1, ⟨hk.1, hk.2, by rw [ecode, ev]⟩, ?_, ?_⟩, fun hlt2 => by omega⟩⟩⟩
        · rw [ecode, ev] at hno; omega
        · rw [w32_id (z := ((evA (M (l + 1)) P).1 : Int) + -1) (by omega), w32_id (by omega)]; omega
        · rw [w32_id (by omega)]; omega
        · rw [w32_id (z := ((evA (M (l + 1)) P).1 : Int) + -1) (by omega), w32_id (by omega)]; omega
        · have e1 : w32 (((evA (M (l + 1)) P).1 : Int) + -1) = (((evA (M (l + 1)) P).1 - 1 : Nat) : Int) := by rw [w32_id (by omega)]; omega
          have e2 : w32 ((((evA (M (l + 1)) P).1 - 1 : Nat) : Int) - 1) = (((evA (M (l + 1)) P).1 - 2 : Nat) : Int) := by rw [w32_id (by omega)]; omega
          rw [e1, e2, w1 (by omega)]
          simp only [Int.toNat_natCast]
          refine ih' _ _ hf.up hd (by omega) (fun j hj => ?_)
          by_cases hjj : j = (evA (M (l + 1)) P).1 - 2
          · subst hjj
            rw [if_pos rfl, ms_eq, hs _ (by omega), hs _ (by omega)]
          · rw [if_neg hjj, ms_nk hjj]; exact hs j (by omega)
  have e0 : evA (M (l + 1)) [] = (0, fun _ => 0) := rfl
  have := key L [] M vU rfl (fun _ _ _ => rfl) hv (by rw [e0]; decide) (fun j hj => by rw [e0] at hj; simp at hj)
  exact this
end LB
