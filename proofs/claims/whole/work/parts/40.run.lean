/-! a program's run: the class -/
def stpR (c : Mem) (L : LC) (s : Mem) (rain k a b : Int) : Option Mem :=
  if k = 0 then layS c s a.toNat b else if k = 1 then foldS s a.toNat else if k = 2 then wetS s a.toNat else if k = 3 then milkS s a.toNat
  else if k = 4 then (if lyOn c s a = -1 then none else some (digS c s a))
  else if s 4 0 < 500 then some (dayS c L s rain) else none
def stpS (c : Mem) (L : LC) (s : Mem) (k a b : Int) : Option Mem := stpR c L s (rainS c (s 4 0)) k a b
/-- a step as it can be -/
def stOK (c : Mem) (k a b : Int) : Prop := (0 ≤ k ∧ k ≤ 6) ∧ (k ≤ 3 → 0 ≤ a ∧ a < c 0 1) ∧ (k = 0 → 0 ≤ b ∧ b ≤ 12) ∧ (k = 6 → 0 ≤ a ∧ a ≤ 30)
def PVc (c : Mem) (P : PG) : Prop := ∀ i, i < P.1 → stOK c (P.2 i 0) (P.2 i 1) (P.2 i 2) ∧ ((i : Int) + 1 ≤ P.2 i 3 ∧ P.2 i 3 ≤ (P.1 : Int)) ∧ (P.2 i 0 ≠ 6 → P.2 i 3 = (i : Int) + 1)
theorem stpR_w {c s s' : Mem} {L : LC} {rain k a b : Int} (hw : CW c) (h : LW c s) (ho : stOK c k a b) (he : stpR c L s rain k a b = some s') : LW c s' := by
  obtain ⟨ho1, ho2, ho3⟩ := ho
  have hn := hw.n.1
  unfold stpR at he
  split at he
  · exact layS_w hw h (by omega) (ho3.1 (by assumption)).1 he
  · split at he
    · exact foldS_w h he
    · split at he
      · exact wetS_w h (by omega) he
      · split at he
        · exact milkS_w h (by omega) he
        · split at he
          · split at he
            · cases he
            · cases he; exact digS_w h
          · split at he
            · cases he; exact dayS_w h (by omega)
            · cases he
theorem stpS_w {c s s' : Mem} {L : LC} {k a b : Int} (hw : CW c) (h : LW c s) (ho : stOK c k a b) (he : stpS c L s k a b = some s') : LW c s' := stpR_w hw h ho he
/-- what work changes: the linen, steps begun, done, refused -/
abbrev WK : Type := Mem × Nat × Nat × Nat
section WD
variable (c : Mem) (L : LC) (P : PG)
def doW (i : Nat) (w : WK) : WK := ((stpS c L w.1 (P.2 i 0) (P.2 i 1) (P.2 i 2)).getD w.1, w.2.1 + 1, if (stpS c L w.1 (P.2 i 0) (P.2 i 1) (P.2 i 2)).isSome = true then (w.2.2.1 + 1, w.2.2.2) else (w.2.2.1, w.2.2.2 + 1))
def runL (AG : Nat → WK → WK) (to : Nat) : Nat → Nat → WK → WK
  | 0, _, w => w
  | f + 1, i, w => if to ≤ i ∨ 200 ≤ w.2.1 then w else if P.2 i 0 = 6 then runL AG to f (P.2 i 3).toNat (AG i (w.1, w.2.1 + 1, w.2.2)) else runL AG to f (i + 1) (doW c L P i w)
def runG (R : WK → WK) : Nat → WK → WK
  | 0, w => w
  | f + 1, w => if 200 ≤ w.2.1 then w else runG R f (R w)
/-- r brackets more may open -/
def runN : Nat → Nat → Nat → WK → WK
  | 0, i, to => runL c L P (fun _ w => w) to 150 i
  | r + 1, i, to => runL c L P (fun i w => runG (runN r (i + 1) (P.2 i 3).toNat) (P.2 i 1).toNat w) to 150 i
def runP (s : Mem) : WK := runN c L P 6 0 P.1 (s, 0, 0, 0)
end WD
/-- the class at work -/
def WKc (M : Mem) (cm a l : Nat) (c : Mem) (L : LC) (P : PG) (w : WK) : Prop := SKc M cm a c w.1 ∧ LWC M cm L l ∧ (∀ i, i < P.1 → M 36 i = P.2 i 0 + 1 ∧ M 37 i = P.2 i 1 ∧ M 38 i = P.2 i 2 ∧ M 39 i = P.2 i 3) ∧ (M 35 5 = (w.2.1 : Int) ∧ M 35 6 = (w.2.2.1 : Int) ∧ M 35 7 = (w.2.2.2 : Int)) ∧ w.2.1 ≤ 200 ∧ w.2.2.1 ≤ w.2.1 ∧ w.2.2.2 ≤ w.2.1
def FrR (a : Nat) (M M' : Mem) : Prop := ∀ b k, ¬ scL b → ¬ (a ≤ b ∧ b ≤ a + 4) → ¬ (b = 35 ∧ 5 ≤ k ∧ k ≤ 7) → M' b k = M b k
theorem FrR.rf {a : Nat} {M : Mem} : FrR a M M := fun _ _ _ _ _ => rfl
theorem FrR.tr {a : Nat} {M M1 M2 : Mem} (h1 : FrR a M M1) (h2 : FrR a M1 M2) : FrR a M M2 := fun b k p q r => (h2 b k p q r).trans (h1 b k p q r)
theorem FrI.R {a : Nat} {M M' : Mem} (h : FrI a M M') : FrR a M M' := fun b k p q _ => h b k p q
theorem FrR.up {a : Nat} {M M1 : Mem} {k : Nat} {v : Int} (h : FrR a M M1) (hk : 5 ≤ k ∧ k ≤ 7) : FrR a M (mset M1 35 k v) := by
  intro b' k' p q r
  unfold mset
  rw [if_neg (by rintro ⟨rfl, rfl⟩; exact r ⟨rfl, hk⟩)]
  exact h b' k' p q r
section WF
variable {M M' : Mem} {cm a l : Nat} {c s : Mem} {L : LC} {P : PG} {w : WK}
theorem CC.rr (hcm : isO 923 cm 0 = true) (ha : isO 923 a 3 = true) (hf : FrR a M M') (h : CC M cm c) : CC M' cm c := by
  have hr := rg0 hcm
  have hr3 := rg3 ha
  exact ⟨fun k hk => (hf cm (5 + k) (by unfold scL; omega) (by omega) (by omega)).trans (h.1 k hk), fun b h1 h2 i hi => (hf (cm + b) i (by unfold scL; omega) (by omega) (by omega)).trans (h.2 b h1 h2 i hi)⟩
theorem LWC.rr (hcm : isO 923 cm 0 = true) (ha : isO 923 a 3 = true) (hf : FrR a M M') (h : LWC M cm L l) : LWC M' cm L l := by
  have hr := rg0 hcm
  have hr2 := rg2 h.2.1
  have hr3 := rg3 ha
  refine ⟨(hf cm 11 (by unfold scL; omega) (by omega) (by omega)).trans h.1, h.2.1, ⟨(hf l 3 (by unfold scL; omega) (by omega) (by omega)).trans h.2.2.1.1, h.2.2.1.2.1, fun i hi => (hf (l + 2) i (by unfold scL; omega) (by omega) (by omega)).trans (h.2.2.1.2.2 i hi)⟩, h.2.2.2⟩
theorem LK.rr (ha : isO 923 a 3 = true) {k : Nat} {v : Int} (h : LK M a c s) : LK (mset M 35 k v) a c s := by
  have hr3 := rg3 ha
  refine ⟨fun q hq => ?_, ?_, ?_⟩
  · rw [ms_na (by omega), ms_na (by omega), ms_na (by omega), ms_na (by omega)]; exact h.1 q hq
  · rw [ms_na (by omega)]; exact h.2.1
  · rw [ms_na (by omega)]; exact h.2.2
theorem WKc.st (hcm : isO 923 cm 0 = true) (ha : isO 923 a 3 = true) (h : WKc M cm a l c L P w) (hw : CW c) (hf : FrR a M M') {s' : Mem} (hl : LK M' a c s') (hlw : LW c s') {k : Nat} {v : Int} (hk : 5 ≤ k ∧ k ≤ 7) {w' : WK} (e : w'.1 = s') (e5 : mset M' 35 k v 35 5 = (w'.2.1 : Int)) (e6 : mset M' 35 k v 35 6 = (w'.2.2.1 : Int)) (e7 : mset M' 35 k v 35 7 = (w'.2.2.2 : Int)) (hb : w'.2.1 ≤ 200 ∧ w'.2.2.1 ≤ w'.2.1 ∧ w'.2.2.2 ≤ w'.2.1) : FrR a M (mset M' 35 k v) ∧ WKc (mset M' 35 k v) cm a l c L P w' := by
  obtain ⟨⟨hc, -, -, -⟩, hL, hP, -, -⟩ := h
  have hr3 := rg3 ha
  have f : FrR a M (mset M' 35 k v) := hf.up hk
  refine ⟨f, ⟨hc.rr hcm ha f, hw, ?_, ?_⟩, hL.rr hcm ha f, fun j hj => ?_, ⟨e5, e6, e7⟩, hb⟩
  · rw [e]; exact hl.rr ha
  · rw [e]; exact hlw
  · rw [f 36 j (by unfold scL; omega) (by omega) (by omega), f 37 j (by unfold scL; omega) (by omega) (by omega), f 38 j (by unfold scL; omega) (by omega) (by omega), f 39 j (by unfold scL; omega) (by omega) (by omega)]
    exact hP j hj
end WF
theorem u73_0 {d : Nat} {l1 : Nat} {l2 : Nat} {l3 : Int} {M : Mem} {K : KK} {Q : RR → Mem → KK → Prop} (hK : K.1 = 923) (hX : FX M) (k1 : isO 923 l1 3 = true) (k2 : isO 923 l2 0 = true) (h : (0 ≤ l3 ∧ l3 < (150 : Int)) ∧ ((M 36 (Int.toNat l3)) = (1 : Int) → (0 ≤ l3 ∧ l3 < (150 : Int)) ∧ (0 ≤ l3 ∧ l3 < (150 : Int)) ∧ ∃ c4 : Mem, ∃ s5 : Mem, ∃ p6 : Nat, ((M 37 (Int.toNat l3)) = (p6 : Int) ∧ SKc M l2 l1 c4 s5 ∧ p6 < nSt c4 ∧ 0 ≤ (M 38 (Int.toNat l3)) ∧ (M 38 (Int.toNat l3)) ≤ 12) ∧ (∀ (M10 : Mem), FX M10 → (FrI l1 M M10 ∧ LK M10 l1 c4 ((layS c4 s5 p6 (M 38 (Int.toNat l3))).getD s5)) → Q (.inl (some (vI (bI ((layS c4 s5 p6 (M 38 (Int.toNat l3))).isSome = true))))) M10 K)) ∧ ((M 36 (Int.toNat l3)) = (2 : Int) → (0 ≤ l3 ∧ l3 < (150 : Int)) ∧ ∃ c12 : Mem, ∃ s13 : Mem, ∃ p14 : Nat, ((M 37 (Int.toNat l3)) = (p14 : Int) ∧ CW c12 ∧ LK M l1 c12 s13 ∧ p14 < nSt c12) ∧ (∀ (M18 : Mem), FX M18 → (FrI l1 M M18 ∧ LK M18 l1 c12 ((foldS s13 p14).getD s13)) → Q (.inl (some (vI (bI ((foldS s13 p14).isSome = true))))) M18 K)) ∧ ((M 36 (Int.toNat l3)) = (3 : Int) → (0 ≤ l3 ∧ l3 < (150 : Int)) ∧ ∃ c20 : Mem, ∃ s21 : Mem, ∃ p22 : Nat, ((M 37 (Int.toNat l3)) = (p22 : Int) ∧ CW c20 ∧ LK M l1 c20 s21 ∧ LW c20 s21 ∧ p22 < nSt c20) ∧ (∀ (M26 : Mem), FX M26 → (FrI l1 M M26 ∧ LK M26 l1 c20 ((wetS s21 p22).getD s21)) → Q (.inl (some (vI (bI ((wetS s21 p22).isSome = true))))) M26 K)) ∧ ((M 36 (Int.toNat l3)) = (4 : Int) → (0 ≤ l3 ∧ l3 < (150 : Int)) ∧ ∃ c28 : Mem, ∃ s29 : Mem, ∃ p30 : Nat, ((M 37 (Int.toNat l3)) = (p30 : Int) ∧ CW c28 ∧ LK M l1 c28 s29 ∧ LW c28 s29 ∧ p30 < nSt c28) ∧ (∀ (M34 : Mem), FX M34 → (FrI l1 M M34 ∧ LK M34 l1 c28 ((milkS s29 p30).getD s29)) → Q (.inl (some (vI (bI ((milkS s29 p30).isSome = true))))) M34 K)) ∧ ((M 36 (Int.toNat l3)) = (5 : Int) → (0 ≤ l3 ∧ l3 < (150 : Int)) ∧ ∃ c36 : Mem, ∃ s37 : Mem, SKc M l2 l1 c36 s37 ∧ (∀ (M41 : Mem), FX M41 → (FrI l1 M M41 ∧ LK M41 l1 c36 (digS c36 s37 (M 37 (Int.toNat l3)))) → Q (.inl (some (vI (bI (lyOn c36 s37 (M 37 (Int.toNat l3)) ≠ -1))))) M41 K)) ∧ ((M 36 (Int.toNat l3)) < (1 : Int) ∨ (5 : Int) < (M 36 (Int.toNat l3)) → ((M l1 4) < (500 : Int) → ∃ c43 : Mem, (CC M l2 c43 ∧ CW c43) ∧ ∃ c45 : Mem, ∃ s46 : Mem, ∃ L47 : LC, ∃ la48 : Nat, (SKc M l2 l1 c45 s46 ∧ LWC M l2 L47 la48 ∧ s46 4 0 < 2000) ∧ (∀ (M52 : Mem), FX M52 → (FrI l1 M M52 ∧ LK M52 l1 c45 (dayS c45 L47 s46 (rainS c43 (M l1 4)))) → Q (.inl (some (vI (1 : Int)))) M52 K)) ∧ (¬ ((M l1 4) < (500 : Int)) → Q (.inl (some (vI (0 : Int)))) M K))) : Wp (d + 4) 73 0 [vR 35, vR l1, vR l2, vI l3] [] M K Q := by
  refine r_aload_n c73_0 rfl ?_
  refine r_getR c73_1 (oK hK o35) (FX.get (b := 36) hX (by decide) (by decide +kernel) (by decide)) (by decide) ?_
  refine r_iload_n c73_4 rfl ?_
  obtain ⟨s1, h⟩ := h
  refine r_iae c73_5 (oK hK o36) (bd l36 s1) rfl ?_
  refine r_tsw c73_6 ?_
  by_cases hv0 : (M 36 (Int.toNat l3)) = (1 : Int)
  · rw [show tsw 6 97 1 5 #[34, 52, 63, 74, 85] (M 36 (Int.toNat l3)) = 40 from by rw [hv0]; decide]
    replace h := h.1 hv0
    refine r_aload_n c73_40 rfl ?_
    refine r_aload_n c73_41 rfl ?_
    refine r_aload_n c73_42 rfl ?_
    refine r_getR c73_43 (oK hK o35) (FX.get (b := 37) hX (by decide) (by decide +kernel) (by decide)) (by decide) ?_
    refine r_iload_n c73_46 rfl ?_
    obtain ⟨s2, h⟩ := h
    refine r_iae c73_47 (oK hK o37) (bd l37 s2) rfl ?_
    refine r_aload_n c73_48 rfl ?_
    refine r_getR c73_49 (oK hK o35) (FX.get (b := 38) hX (by decide) (by decide +kernel) (by decide)) (by decide) ?_
    refine r_iload_n c73_52 rfl ?_
    obtain ⟨s3, h⟩ := h
    refine r_iae c73_53 (oK hK o38) (bd l38 s3) rfl ?_
    obtain ⟨c4, h⟩ := h
    obtain ⟨s5, h⟩ := h
    obtain ⟨p6, h⟩ := h
    obtain ⟨p7, h⟩ := h
    refine r_call c73_54 rfl rfl (Nat.le_of_ble_eq_true rfl) (okc_r rfl rfl (oK hK k1)) (g31z hK hX k1 k2 p7 (fun M10 x8 p9 => Bk_v ?_))
    replace h := h M10 x8 p9
    exact r_iret c73_57 (Or.inr bI_01) h
  by_cases hv1 : (M 36 (Int.toNat l3)) = (2 : Int)
  · rw [show tsw 6 97 1 5 #[34, 52, 63, 74, 85] (M 36 (Int.toNat l3)) = 58 from by rw [hv1]; decide]
    replace h := h.2.1 hv1
    refine r_aload_n c73_58 rfl ?_
    refine r_aload_n c73_59 rfl ?_
    refine r_getR c73_60 (oK hK o35) (FX.get (b := 37) hX (by decide) (by decide +kernel) (by decide)) (by decide) ?_
    refine r_iload_n c73_63 rfl ?_
    obtain ⟨s11, h⟩ := h
    refine r_iae c73_64 (oK hK o37) (bd l37 s11) rfl ?_
    obtain ⟨c12, h⟩ := h
    obtain ⟨s13, h⟩ := h
    obtain ⟨p14, h⟩ := h
    obtain ⟨p15, h⟩ := h
    refine r_call c73_65 rfl rfl (Nat.le_of_ble_eq_true rfl) (okc_r rfl rfl (oK hK k1)) (g32z hK hX k1 p15 (fun M18 x16 p17 => Bk_v ?_))
    replace h := h M18 x16 p17
    exact r_iret c73_68 (Or.inr bI_01) h
  by_cases hv2 : (M 36 (Int.toNat l3)) = (3 : Int)
  · rw [show tsw 6 97 1 5 #[34, 52, 63, 74, 85] (M 36 (Int.toNat l3)) = 69 from by rw [hv2]; decide]
    replace h := h.2.2.1 hv2
    refine r_aload_n c73_69 rfl ?_
    refine r_aload_n c73_70 rfl ?_
    refine r_getR c73_71 (oK hK o35) (FX.get (b := 37) hX (by decide) (by decide +kernel) (by decide)) (by decide) ?_
    refine r_iload_n c73_74 rfl ?_
    obtain ⟨s19, h⟩ := h
    refine r_iae c73_75 (oK hK o37) (bd l37 s19) rfl ?_
    obtain ⟨c20, h⟩ := h
    obtain ⟨s21, h⟩ := h
    obtain ⟨p22, h⟩ := h
    obtain ⟨p23, h⟩ := h
    refine r_call c73_76 rfl rfl (Nat.le_of_ble_eq_true rfl) (okc_r rfl rfl (oK hK k1)) (g33z hK hX k1 p23 (fun M26 x24 p25 => Bk_v ?_))
    replace h := h M26 x24 p25
    exact r_iret c73_79 (Or.inr bI_01) h
  by_cases hv3 : (M 36 (Int.toNat l3)) = (4 : Int)
  · rw [show tsw 6 97 1 5 #[34, 52, 63, 74, 85] (M 36 (Int.toNat l3)) = 80 from by rw [hv3]; decide]
    replace h := h.2.2.2.1 hv3
    refine r_aload_n c73_80 rfl ?_
    refine r_aload_n c73_81 rfl ?_
    refine r_getR c73_82 (oK hK o35) (FX.get (b := 37) hX (by decide) (by decide +kernel) (by decide)) (by decide) ?_
    refine r_iload_n c73_85 rfl ?_
    obtain ⟨s27, h⟩ := h
    refine r_iae c73_86 (oK hK o37) (bd l37 s27) rfl ?_
    obtain ⟨c28, h⟩ := h
    obtain ⟨s29, h⟩ := h
    obtain ⟨p30, h⟩ := h
    obtain ⟨p31, h⟩ := h
    refine r_call c73_87 rfl rfl (Nat.le_of_ble_eq_true rfl) (okc_r rfl rfl (oK hK k1)) (g34z hK hX k1 p31 (fun M34 x32 p33 => Bk_v ?_))
    replace h := h M34 x32 p33
    exact r_iret c73_90 (Or.inr bI_01) h
  by_cases hv4 : (M 36 (Int.toNat l3)) = (5 : Int)
  · rw [show tsw 6 97 1 5 #[34, 52, 63, 74, 85] (M 36 (Int.toNat l3)) = 91 from by rw [hv4]; decide]
    replace h := h.2.2.2.2.1 hv4
    refine r_aload_n c73_91 rfl ?_
    refine r_aload_n c73_92 rfl ?_
    refine r_aload_n c73_93 rfl ?_
    refine r_getR c73_94 (oK hK o35) (FX.get (b := 37) hX (by decide) (by decide +kernel) (by decide)) (by decide) ?_
    refine r_iload_n c73_97 rfl ?_
    obtain ⟨s35, h⟩ := h
    refine r_iae c73_98 (oK hK o37) (bd l37 s35) rfl ?_
    obtain ⟨c36, h⟩ := h
    obtain ⟨s37, h⟩ := h
    obtain ⟨p38, h⟩ := h
    refine r_call c73_99 rfl rfl (Nat.le_of_ble_eq_true rfl) (okc_r rfl rfl (oK hK k1)) (g35 hK hX k1 k2 p38 (fun M41 x39 p40 => Bk_v ?_))
    replace h := h M41 x39 p40
    exact r_iret c73_102 (Or.inr bI_01) h
  have hvd : (M 36 (Int.toNat l3)) < (1 : Int) ∨ (5 : Int) < (M 36 (Int.toNat l3)) := by omega
  rw [show tsw 6 97 1 5 #[34, 52, 63, 74, 85] (M 36 (Int.toNat l3)) = 103 from by unfold tsw; rw [if_pos hvd]; decide]
  replace h := h.2.2.2.2.2 hvd
  refine r_aload_n c73_103 rfl ?_
  refine r_getIe c73_104 (oK hK k1) rfl ?_
  refine r_sipush c73_107 ?_
  refine r_icmpP (P := (M l1 4) < (500 : Int)) c73_110 rfl (fun hc42 => ?_) (fun hc42 => ?_)
  · replace h := h.1 hc42
    refine r_aload_n c73_115 rfl ?_
    refine r_aload_n c73_116 rfl ?_
    refine r_aload_n c73_117 rfl ?_
    refine r_aload_n c73_118 rfl ?_
    refine r_getIe c73_119 (oK hK k1) rfl ?_
    obtain ⟨c43, h⟩ := h
    obtain ⟨p44, h⟩ := h
    refine r_call c73_122 rfl rfl (Nat.le_of_ble_eq_true rfl) (okc_r rfl rfl (oK hK k2)) (g7 hK hX k2 p44 (Bk_v ?_))
    obtain ⟨c45, h⟩ := h
    obtain ⟨s46, h⟩ := h
    obtain ⟨L47, h⟩ := h
    obtain ⟨la48, h⟩ := h
    obtain ⟨p49, h⟩ := h
    refine r_call c73_125 rfl rfl (Nat.le_of_ble_eq_true rfl) (okc_r rfl rfl (oK hK k1)) (g36 hK hX k1 k2 p49 (fun M52 x50 p51 => Bk_n ?_))
    replace h := h M52 x50 p51
    refine r_iconst c73_128 ?_
    exact r_iret c73_129 (by decide) h
  · replace h := h.2 hc42
    refine r_iconst c73_113 ?_
    exact r_iret c73_114 (by decide) h
theorem u70_0 {d : Nat} {l1 : Nat} {l2 : Nat} {M : Mem} {K : KK} {Q : RR → Mem → KK → Prop} (hK : K.1 = 923) (hX : FX M) (k1 : isO 923 l1 3 = true) (k2 : isO 923 l2 0 = true) (h : Wm d 71 [vR 35, vR l1, vR l2, vI (0 : Int), vI (M 35 4), vI (0 : Int)] (mset (mset (mset M 35 5 (0 : Int)) 35 6 (0 : Int)) 35 7 (0 : Int)) K (Bk d 70 24 27 71 [vR 35, vR l1, vR l2] [] Q)) : Wp (d + 1) 70 0 [vR 35, vR l1, vR l2] [] M K Q := by
  refine r_aload_n c70_0 rfl ?_
  refine r_iconst c70_1 ?_
  refine r_putI c70_2 (oK hK o35) ?_
  have x1 := FX.set (v := (0 : Int)) (a := 35) (k := 5) hX (by decide +kernel)
  refine r_aload_n c70_5 rfl ?_
  refine r_iconst c70_6 ?_
  refine r_putI c70_7 (oK hK o35) ?_
  have x2 := FX.set (v := (0 : Int)) (a := 35) (k := 6) x1 (by decide +kernel)
  refine r_aload_n c70_10 rfl ?_
  refine r_iconst c70_11 ?_
  refine r_putI c70_12 (oK hK o35) ?_
  have x3 := FX.set (v := (0 : Int)) (a := 35) (k := 7) x2 (by decide +kernel)
  refine r_aload_n c70_15 rfl ?_
  refine r_aload_n c70_16 rfl ?_
  refine r_aload_n c70_17 rfl ?_
  refine r_iconst c70_18 ?_
  refine r_aload_n c70_19 rfl ?_
  refine r_getIe c70_20 (oK hK o35) (Eq.trans (ms_nk (by decide)) (Eq.trans (ms_nk (by decide)) (ms_nk (by decide)))) ?_
  refine r_iconst c70_23 ?_
  exact r_call c70_24 rfl rfl (Nat.le_of_ble_eq_true rfl) (okc_r rfl rfl (oK hK o35)) h
theorem u70_27 {d : Nat} {l1 : Nat} {l2 : Nat} {M : Mem} {K : KK} {Q : RR → Mem → KK → Prop} (hK : K.1 = 923) (hX : FX M) (k1 : isO 923 l1 3 = true) (k2 : isO 923 l2 0 = true) (h : Q (.inl none) M K) : Wp (d + 1) 70 27 [vR 35, vR l1, vR l2] [] M K Q := by
  exact r_ret c70_27 h
theorem u71_0 {d : Nat} {l1 : Nat} {l2 : Nat} {l3 : Int} {l4 : Int} {l5 : Int} {M : Mem} {K : KK} {Q : RR → Mem → KK → Prop} (hK : K.1 = 923) (hX : FX M) (k1 : isO 923 l1 3 = true) (k2 : isO 923 l2 0 = true) (h : Wp (d + 1) 71 3 [vR 35, vR l1, vR l2, vI l3, vI l4, vI l5, vI l3] [] M K Q) : Wp (d + 1) 71 0 [vR 35, vR l1, vR l2, vI l3, vI l4, vI l5, vU] [] M K Q := by
  refine r_iload_n c71_0 rfl ?_
  refine r_istore c71_1 (Nat.le_of_ble_eq_true rfl) ?_
  exact h
theorem u71_3 {d : Nat} {l1 : Nat} {l2 : Nat} {l3 : Int} {l4 : Int} {l5 : Int} {l6 : Int} {M : Mem} {K : KK} {Q : RR → Mem → KK → Prop} (hK : K.1 = 923) (hX : FX M) (k1 : isO 923 l1 3 = true) (k2 : isO 923 l2 0 = true) (h : (l4 ≤ l6 → Q (.inl none) M K) ∧ (¬ (l4 ≤ l6) → ((200 : Int) ≤ (M 35 5) → Q (.inl none) M K) ∧ (¬ ((200 : Int) ≤ (M 35 5)) → (0 ≤ l6 ∧ l6 < (150 : Int)) ∧ (¬ (M 36 (Int.toNat l6)) = (7 : Int) → Wm d 73 [vR 35, vR l1, vR l2, vI l6] (mset M 35 5 (w32 ((M 35 5) + (1 : Int)))) K (Bk d 71 78 81 73 [vR 35, vR l1, vR l2, vI l3, vI l4, vI l5, vI l6] [] Q)) ∧ ((M 36 (Int.toNat l6)) = (7 : Int) → Wm d 72 [vR 35, vR l1, vR l2, vI l6, vI (w32 (l5 + (1 : Int)))] (mset M 35 5 (w32 ((M 35 5) + (1 : Int)))) K (Bk d 71 51 54 72 [vR 35, vR l1, vR l2, vI l3, vI l4, vI l5, vI l6] [] Q))))) : Wp (d + 1) 71 3 [vR 35, vR l1, vR l2, vI l3, vI l4, vI l5, vI l6] [] M K Q := by
  refine r_iload c71_3 rfl ?_
  refine r_iload c71_5 rfl ?_
  refine r_icmpP (P := l4 ≤ l6) c71_7 rfl (fun hc1 => ?_) (fun hc1 => ?_)
  · replace h := h.1 hc1
    exact r_ret c71_113 h
  · replace h := h.2 hc1
    refine r_aload_n c71_10 rfl ?_
    refine r_getIe c71_11 (oK hK o35) rfl ?_
    refine r_sipush c71_14 ?_
    refine r_icmpP (P := (200 : Int) ≤ (M 35 5)) c71_17 rfl (fun hc2 => ?_) (fun hc2 => ?_)
    · replace h := h.1 hc2
      exact r_ret c71_113 h
    · replace h := h.2 hc2
      refine r_aload_n c71_20 rfl ?_
      refine r_dupr c71_21 ?_
      refine r_getIe c71_22 (oK hK o35) rfl ?_
      refine r_iconst c71_25 ?_
      refine r_iadd c71_26 ?_
      refine r_putI c71_27 (oK hK o35) ?_
      have x3 := FX.set (v := (w32 ((M 35 5) + (1 : Int)))) (a := 35) (k := 5) hX (by decide +kernel)
      refine r_aload_n c71_30 rfl ?_
      refine r_getR c71_31 (oK hK o35) (FX.get (b := 36) x3 (by decide) (by decide +kernel) (by decide)) (by decide) ?_
      refine r_iload c71_34 rfl ?_
      obtain ⟨s4, h⟩ := h
      refine r_iae c71_36 (oK hK o36) (bd l36 s4) (ms_na (by decide)) ?_
      refine r_bipush c71_37 ?_
      refine r_icmpP (P := ¬ (M 36 (Int.toNat l6)) = (7 : Int)) c71_39 rfl (fun hc5 => ?_) (fun hc5 => ?_)
      · replace h := h.1 hc5
        refine r_aload_n c71_73 rfl ?_
        refine r_aload_n c71_74 rfl ?_
        refine r_aload_n c71_75 rfl ?_
        refine r_iload c71_76 rfl ?_
        exact r_call c71_78 rfl rfl (Nat.le_of_ble_eq_true rfl) (okc_r rfl rfl (oK hK o35)) h
      · have hc6 := Classical.not_not.mp hc5
        replace h := h.2 hc6
        refine r_aload_n c71_42 rfl ?_
        refine r_aload_n c71_43 rfl ?_
        refine r_aload_n c71_44 rfl ?_
        refine r_iload c71_45 rfl ?_
        refine r_iload c71_47 rfl ?_
        refine r_iconst c71_49 ?_
        refine r_iadd c71_50 ?_
        exact r_call c71_51 rfl rfl (Nat.le_of_ble_eq_true rfl) (okc_r rfl rfl (oK hK o35)) h
theorem u71_54 {d : Nat} {l1 : Nat} {l2 : Nat} {l3 : Int} {l4 : Int} {l5 : Int} {l6 : Int} {M : Mem} {K : KK} {Q : RR → Mem → KK → Prop} (hK : K.1 = 923) (hX : FX M) (k1 : isO 923 l1 3 = true) (k2 : isO 923 l2 0 = true) (h : (0 ≤ l6 ∧ l6 < (150 : Int)) ∧ Wp (d + 1) 71 3 [vR 35, vR l1, vR l2, vI l3, vI l4, vI l5, vI (w32 ((jmax l6 (w32 ((M 39 (Int.toNat l6)) - (1 : Int)))) + 1))] [] M K Q) : Wp (d + 1) 71 54 [vR 35, vR l1, vR l2, vI l3, vI l4, vI l5, vI l6] [] M K Q := by
  refine r_iload c71_54 rfl ?_
  refine r_aload_n c71_56 rfl ?_
  refine r_getR c71_57 (oK hK o35) (FX.get (b := 39) hX (by decide) (by decide +kernel) (by decide)) (by decide) ?_
  refine r_iload c71_60 rfl ?_
  obtain ⟨s1, h⟩ := h
  refine r_iae c71_62 (oK hK o39) (bd l39 s1) rfl ?_
  refine r_iconst c71_63 ?_
  refine r_isub c71_64 ?_
  refine r_max c71_65 (Nat.le_of_ble_eq_true rfl) ?_
  refine r_istore c71_68 (Nat.le_of_ble_eq_true rfl) ?_
  refine r_goto c71_70 ?_
  refine r_iinc c71_107 rfl ?_
  refine r_goto c71_110 ?_
  exact h
theorem u71_81 {d : Nat} {l1 : Nat} {l2 : Nat} {l3 : Int} {l4 : Int} {l5 : Int} {l6 : Int} {t0 : Int} {M : Mem} {K : KK} {Q : RR → Mem → KK → Prop} (hK : K.1 = 923) (hX : FX M) (k1 : isO 923 l1 3 = true) (k2 : isO 923 l2 0 = true) (h : (t0 = (0 : Int) → Wp (d + 1) 71 3 [vR 35, vR l1, vR l2, vI l3, vI l4, vI l5, vI (w32 (l6 + 1))] [] (mset M 35 7 (w32 ((M 35 7) + (1 : Int)))) K Q) ∧ (¬ (t0 = (0 : Int)) → Wp (d + 1) 71 3 [vR 35, vR l1, vR l2, vI l3, vI l4, vI l5, vI (w32 (l6 + 1))] [] (mset M 35 6 (w32 ((M 35 6) + (1 : Int)))) K Q)) : Wp (d + 1) 71 81 [vR 35, vR l1, vR l2, vI l3, vI l4, vI l5, vI l6] [vI t0] M K Q := by
  refine r_ifP (P := t0 = (0 : Int)) c71_81 rfl (fun hc1 => ?_) (fun hc1 => ?_)
  · replace h := h.1 hc1
    refine r_aload_n c71_97 rfl ?_
    refine r_dupr c71_98 ?_
    refine r_getIe c71_99 (oK hK o35) rfl ?_
    refine r_iconst c71_102 ?_
    refine r_iadd c71_103 ?_
    refine r_putI c71_104 (oK hK o35) ?_
    have x2 := FX.set (v := (w32 ((M 35 7) + (1 : Int)))) (a := 35) (k := 7) hX (by decide +kernel)
    refine r_iinc c71_107 rfl ?_
    refine r_goto c71_110 ?_
    exact h
  · replace h := h.2 hc1
    refine r_aload_n c71_84 rfl ?_
    refine r_dupr c71_85 ?_
    refine r_getIe c71_86 (oK hK o35) rfl ?_
    refine r_iconst c71_89 ?_
    refine r_iadd c71_90 ?_
    refine r_putI c71_91 (oK hK o35) ?_
    have x3 := FX.set (v := (w32 ((M 35 6) + (1 : Int)))) (a := 35) (k := 6) hX (by decide +kernel)
    refine r_goto c71_94 ?_
    refine r_iinc c71_107 rfl ?_
    refine r_goto c71_110 ?_
    exact h
theorem u72_0 {d : Nat} {l1 : Nat} {l2 : Nat} {l3 : Int} {l4 : Int} {M : Mem} {K : KK} {Q : RR → Mem → KK → Prop} (hK : K.1 = 923) (hX : FX M) (k1 : isO 923 l1 3 = true) (k2 : isO 923 l2 0 = true) (h : Wp (d + 1) 72 3 [vR 35, vR l1, vR l2, vI l3, vI l4, vI (0 : Int)] [] M K Q) : Wp (d + 1) 72 0 [vR 35, vR l1, vR l2, vI l3, vI l4, vU] [] M K Q := by
  refine r_iconst c72_0 ?_
  refine r_istore c72_1 (Nat.le_of_ble_eq_true rfl) ?_
  exact h
theorem u72_3 {d : Nat} {l1 : Nat} {l2 : Nat} {l3 : Int} {l4 : Int} {l5 : Int} {M : Mem} {K : KK} {Q : RR → Mem → KK → Prop} (hK : K.1 = 923) (hX : FX M) (k1 : isO 923 l1 3 = true) (k2 : isO 923 l2 0 = true) (h : (0 ≤ l3 ∧ l3 < (150 : Int)) ∧ ((M 37 (Int.toNat l3)) ≤ l5 → Q (.inl none) M K) ∧ (¬ ((M 37 (Int.toNat l3)) ≤ l5) → ((200 : Int) ≤ (M 35 5) → Q (.inl none) M K) ∧ (¬ ((200 : Int) ≤ (M 35 5)) → ((6 : Int) < l4 → Q (.inl none) M K) ∧ (¬ ((6 : Int) < l4) → (0 ≤ l3 ∧ l3 < (150 : Int)) ∧ Wm d 71 [vR 35, vR l1, vR l2, vI (w32 (l3 + (1 : Int))), vI (M 39 (Int.toNat l3)), vI l4] M K (Bk d 72 45 48 71 [vR 35, vR l1, vR l2, vI l3, vI l4, vI l5] [] Q))))) : Wp (d + 1) 72 3 [vR 35, vR l1, vR l2, vI l3, vI l4, vI l5] [] M K Q := by
  refine r_iload c72_3 rfl ?_
  refine r_aload_n c72_5 rfl ?_
  refine r_getR c72_6 (oK hK o35) (FX.get (b := 37) hX (by decide) (by decide +kernel) (by decide)) (by decide) ?_
  refine r_iload_n c72_9 rfl ?_
  obtain ⟨s1, h⟩ := h
  refine r_iae c72_10 (oK hK o37) (bd l37 s1) rfl ?_
  refine r_icmpP (P := (M 37 (Int.toNat l3)) ≤ l5) c72_11 rfl (fun hc2 => ?_) (fun hc2 => ?_)
  · replace h := h.1 hc2
    exact r_ret c72_54 h
  · replace h := h.2 hc2
    refine r_aload_n c72_14 rfl ?_
    refine r_getIe c72_15 (oK hK o35) rfl ?_
    refine r_sipush c72_18 ?_
    refine r_icmpP (P := (200 : Int) ≤ (M 35 5)) c72_21 rfl (fun hc3 => ?_) (fun hc3 => ?_)
    · replace h := h.1 hc3
      exact r_ret c72_54 h
    · replace h := h.2 hc3
      refine r_iload c72_24 rfl ?_
      refine r_bipush c72_26 ?_
      refine r_icmpP (P := (6 : Int) < l4) c72_28 rfl (fun hc4 => ?_) (fun hc4 => ?_)
      · replace h := h.1 hc4
        exact r_ret c72_54 h
      · replace h := h.2 hc4
        refine r_aload_n c72_31 rfl ?_
        refine r_aload_n c72_32 rfl ?_
        refine r_aload_n c72_33 rfl ?_
        refine r_iload_n c72_34 rfl ?_
        refine r_iconst c72_35 ?_
        refine r_iadd c72_36 ?_
        refine r_aload_n c72_37 rfl ?_
        refine r_getR c72_38 (oK hK o35) (FX.get (b := 39) hX (by decide) (by decide +kernel) (by decide)) (by decide) ?_
        refine r_iload_n c72_41 rfl ?_
        obtain ⟨s5, h⟩ := h
        refine r_iae c72_42 (oK hK o39) (bd l39 s5) rfl ?_
        refine r_iload c72_43 rfl ?_
        exact r_call c72_45 rfl rfl (Nat.le_of_ble_eq_true rfl) (okc_r rfl rfl (oK hK o35)) h
theorem u72_48 {d : Nat} {l1 : Nat} {l2 : Nat} {l3 : Int} {l4 : Int} {l5 : Int} {M : Mem} {K : KK} {Q : RR → Mem → KK → Prop} (hK : K.1 = 923) (hX : FX M) (k1 : isO 923 l1 3 = true) (k2 : isO 923 l2 0 = true) (h : Wp (d + 1) 72 3 [vR 35, vR l1, vR l2, vI l3, vI l4, vI (w32 (l5 + 1))] [] M K Q) : Wp (d + 1) 72 48 [vR 35, vR l1, vR l2, vI l3, vI l4, vI l5] [] M K Q := by
  refine r_iinc c72_48 rfl ?_
  refine r_goto c72_51 ?_
  exact h
section RU
variable {d : Nat} {M : Mem} {K : KK} {Q : RR → Mem → KK → Prop} {cm a l : Nat} {c : Mem} {L : LC} {P : PG}
theorem g73 {i : Nat} {s : Mem} {kk aa bb : Int} (hK : K.1 = 923) (hX : FX M) (ha : isO 923 a 3 = true) (hcm : isO 923 cm 0 = true) (hs : SKc M cm a c s) (hL : LWC M cm L l) (hi : i < 150) (e : M 36 i = kk + 1 ∧ M 37 i = aa ∧ M 38 i = bb) (ho : stOK c kk aa bb) (hk6 : kk ≠ 6) (k : ∀ M', FX M' → FrI a M M' → LK M' a c ((stpS c L s kk aa bb).getD s) → Q (.inl (some (vI (bI ((stpS c L s kk aa bb).isSome = true))))) M' K) : Wm (d + 4) 73 [vR 35, vR a, vR cm, vI (i : Int)] M K Q := by
  obtain ⟨e1, e2, e3⟩ := e
  have hs' := hs
  obtain ⟨hc, hw, hl, hlw⟩ := hs'
  obtain ⟨ho1, ho2, ho3⟩ := ho
  have hn := hw.n.1
  have hb : 0 ≤ (i : Int) ∧ (i : Int) < 150 := by omega
  have e4 := hl.2.1
  refine u73_0 hK hX ha hcm ⟨hb, fun h => ?_, fun h => ?_, fun h => ?_, fun h => ?_, fun h => ?_, fun h => ?_⟩
  · rw [Int.toNat_natCast] at h ⊢
    have hk : kk = 0 := by omega
    subst hk
    simp only [stpS, stpR] at k
    rw [if_pos trivial] at k
    refine ⟨hb, hb, c, s, aa.toNat, ⟨by omega, hs, by omega, ?_⟩, fun M' x f => ?_⟩
    · rw [e3]; exact ho3.1 rfl
    · rw [e3] at f ⊢; exact k M' x f.1 f.2
  · rw [Int.toNat_natCast] at h ⊢
    have hk : kk = 1 := by omega
    subst hk
    simp [stpS, stpR] at k
    exact ⟨hb, c, s, aa.toNat, ⟨by omega, hw, hl, by omega⟩, fun M' x f => k M' x f.1 f.2⟩
  · rw [Int.toNat_natCast] at h ⊢
    have hk : kk = 2 := by omega
    subst hk
    simp [stpS, stpR] at k
    exact ⟨hb, c, s, aa.toNat, ⟨by omega, hw, hl, hlw, by omega⟩, fun M' x f => k M' x f.1 f.2⟩
  · rw [Int.toNat_natCast] at h ⊢
    have hk : kk = 3 := by omega
    subst hk
    simp [stpS, stpR] at k
    exact ⟨hb, c, s, aa.toNat, ⟨by omega, hw, hl, hlw, by omega⟩, fun M' x f => k M' x f.1 f.2⟩
  · rw [Int.toNat_natCast] at h ⊢
    have hk : kk = 4 := by omega
    subst hk
    rw [e2]
    simp [stpS, stpR] at k
    refine ⟨hb, c, s, hs, fun M' x f => ?_⟩
    by_cases hn1 : lyOn c s aa = -1
    · rw [if_pos hn1, bI_f (not_not_intro hn1)] at k
      have e9 : digS c s aa = s := by unfold digS; rw [if_pos hn1]
      rw [e9] at f
      rw [bI_f (fun h => h hn1)]
      exact k M' x f.1 f.2
    · rw [if_neg hn1, bI_t hn1] at k
      rw [bI_t hn1]
      exact k M' x f.1 f.2
  · rw [Int.toNat_natCast] at h
    have hk : kk = 5 := by omega
    subst hk
    simp [stpS, stpR] at k
    refine ⟨fun h5 => ?_, fun h5 => ?_⟩
    · rw [e4] at h5 ⊢
      rw [if_pos h5, bI_t h5] at k
      exact ⟨c, ⟨hc, hw⟩, c, s, L, l, ⟨hs, hL, by omega⟩, fun M' x f => k M' x f.1 f.2⟩
    · rw [e4] at h5
      rw [if_neg h5, bI_f h5] at k
      exact k M hX FrI.rf hl
/-- a contract for steps from i to to, with r brackets more -/
def CtR (cm a l : Nat) (c : Mem) (L : LC) (P : PG) (D : Nat) (op : Int) (F : Nat → Nat → WK → WK) : Prop := ∀ (d : Nat) (M : Mem) (K : KK) (Q : RR → Mem → KK → Prop) (i to : Nat) (w : WK), D ≤ d → K.1 = 923 → FX M → WKc M cm a l c L P w → i ≤ P.1 → to ≤ P.1 → (∀ M', FX M' → FrR a M M' → WKc M' cm a l c L P (F i to w) → Q (.inl none) M' K) → Wm d 71 [vR 35, vR a, vR cm, vI (i : Int), vI (to : Int), vI op] M K Q
def CtG (cm a l : Nat) (c : Mem) (L : LC) (P : PG) (D : Nat) (op : Int) (F : Nat → WK → WK) : Prop := ∀ (d : Nat) (M : Mem) (K : KK) (Q : RR → Mem → KK → Prop) (i : Nat) (w : WK), D ≤ d → K.1 = 923 → FX M → WKc M cm a l c L P w → i < P.1 → P.2 i 0 = 6 → (∀ M', FX M' → FrR a M M' → WKc M' cm a l c L P (F i w) → Q (.inl none) M' K) → Wm d 72 [vR 35, vR a, vR cm, vI (i : Int), vI op] M K Q
theorem g71 {D : Nat} {op : Int} {AG : Nat → WK → WK} (ha : isO 923 a 3 = true) (hcm : isO 923 cm 0 = true) (hP : PVc c P) (hP1 : P.1 ≤ 51) (hop : 0 ≤ op ∧ op ≤ 6) (hA : CtG cm a l c L P D (op + 1) AG) (h4 : 4 ≤ D) : CtR cm a l c L P (D + 1) op (fun i to => runL c L P AG to 150 i) := by
  intro d M K Q i to w hd hK hX h hi hto k
  obtain ⟨d, rfl⟩ : ∃ e, d = e + 1 := ⟨d - 1, by omega⟩
  refine u71_0 hK hX ha hcm ?_
  simp only [] at k
  generalize hW : runL c L P AG to 150 i w = W9 at k
  have loop : ∀ f j, 150 ≤ f + j → j ≤ P.1 → ∀ M1 wA, FX M1 → FrR a M M1 → WKc M1 cm a l c L P wA → W9 = runL c L P AG to f j wA → Wp (d + 1) 71 3 [vR 35, vR a, vR cm, vI (i : Int), vI (to : Int), vI op, vI (j : Int)] [] M1 K Q := by
    intro f
    induction f with
    | zero => intro j h1 h2; omega
    | succ f ih =>
      intro j h1 h2 M1 wA x1 f1 hw1 e1
      have hw1' := hw1
      obtain ⟨hS, hL, hPr, ⟨e5, e6, e7⟩, hb⟩ := hw1'
      have stop : (to ≤ j ∨ 200 ≤ wA.2.1) → Q (.inl none) M1 K := by
        intro h
        simp only [runL] at e1
        rw [if_pos h] at e1
        exact k M1 x1 f1 (by rw [e1]; exact hw1)
      refine u71_3 hK x1 ha hcm ⟨fun h => stop (by omega), fun h => ⟨fun h => stop (by omega), fun h2 => ⟨by omega, fun h7 => ?_, fun h7 => ?_⟩⟩⟩
      · rw [Int.toNat_natCast] at h7
        have hj : j < P.1 := by omega
        obtain ⟨q0, q1, q2, q3⟩ := hPr j hj
        obtain ⟨ho, ⟨hv1, hv2⟩, -⟩ := hP j hj
        have hk6 : P.2 j 0 ≠ 6 := by omega
        simp only [runL] at e1
        rw [if_neg (by omega), if_neg hk6] at e1
        rw [e5, w1 (by omega)]
        obtain ⟨d, rfl⟩ : ∃ e, d = e + 4 := ⟨d - 4, by omega⟩
        have hS' : SKc (mset M1 35 5 ((wA.2.1 + 1 : Nat) : Int)) cm a c wA.1 := ⟨hS.1.rr hcm ha (FrR.rf.up (by omega)), hS.2.1, hS.2.2.1.rr ha, hS.2.2.2⟩
        refine g73 hK (x1.set (by decide +kernel)) ha hcm hS' (hL.rr hcm ha (FrR.rf.up (by omega))) (by omega) (kk := P.2 j 0) (aa := P.2 j 1) (bb := P.2 j 2) ?_ ho hk6 (fun M2 x2 f2 l2 => Bk_v ?_)
        · rw [ms_na (by omega), ms_na (by omega), ms_na (by omega)]; exact ⟨q0, q1, q2⟩
        · have rd : ∀ j', M2 35 j' = mset M1 35 5 ((wA.2.1 + 1 : Nat) : Int) 35 j' := fun j' => f2 35 j' (by unfold scL; omega) (by have := rg3 ha; omega)
          have r5 : M2 35 5 = ((wA.2.1 + 1 : Nat) : Int) := by rw [rd, ms_eq]
          have r6 : M2 35 6 = (wA.2.2.1 : Int) := by rw [rd, ms_nk (by decide), e6]
          have r7 : M2 35 7 = (wA.2.2.2 : Int) := by rw [rd, ms_nk (by decide), e7]
          have fR : FrR a M1 M2 := (FrR.rf.up (by omega)).tr f2.R
          have hlw' : LW c ((stpS c L wA.1 (P.2 j 0) (P.2 j 1) (P.2 j 2)).getD wA.1) := by
            cases hq : stpS c L wA.1 (P.2 j 0) (P.2 j 1) (P.2 j 2) with
            | none => exact hS.2.2.2
            | some s' => exact stpS_w hS.2.1 hS.2.2.2 ho hq
          have e9 : doW c L P j wA = ((stpS c L wA.1 (P.2 j 0) (P.2 j 1) (P.2 j 2)).getD wA.1, wA.2.1 + 1, if (stpS c L wA.1 (P.2 j 0) (P.2 j 1) (P.2 j 2)).isSome = true then (wA.2.2.1 + 1, wA.2.2.2) else (wA.2.2.1, wA.2.2.2 + 1)) := rfl
          by_cases hsm : (stpS c L wA.1 (P.2 j 0) (P.2 j 1) (P.2 j 2)).isSome = true
          · rw [if_pos hsm] at e9
            rw [bI_t hsm]
            have st := hw1.st (k := 6) (v := ((wA.2.2.1 + 1 : Nat) : Int)) (w' := doW c L P j wA) hcm ha hS.2.1 fR l2 hlw' (by omega) (by rw [e9]) (by rw [e9, ms_nk (by decide), r5]) (by rw [e9, ms_eq]) (by rw [e9, ms_nk (by decide), r7]) (by rw [e9]; dsimp only; omega)
            refine u71_81 hK x2 ha hcm ⟨fun h => absurd h (by decide), fun _ => ?_⟩
            rw [r6, w1 (by omega), w1 (by omega)]
            exact ih (j + 1) (by omega) (by omega) _ _ (x2.set (by decide +kernel)) (f1.tr st.1) st.2 e1
          · rw [if_neg hsm] at e9
            rw [bI_f hsm]
            have st := hw1.st (k := 7) (v := ((wA.2.2.2 + 1 : Nat) : Int)) (w' := doW c L P j wA) hcm ha hS.2.1 fR l2 hlw' (by omega) (by rw [e9]) (by rw [e9, ms_nk (by decide), r5]) (by rw [e9, ms_nk (by decide), r6]) (by rw [e9, ms_eq]) (by rw [e9]; dsimp only; omega)
            refine u71_81 hK x2 ha hcm ⟨fun _ => ?_, fun h => absurd rfl h⟩
            rw [r7, w1 (by omega), w1 (by omega)]
            exact ih (j + 1) (by omega) (by omega) _ _ (x2.set (by decide +kernel)) (f1.tr st.1) st.2 e1
      · rw [Int.toNat_natCast] at h7
        have hj : j < P.1 := by omega
        obtain ⟨q0, q1, q2, q3⟩ := hPr j hj
        obtain ⟨ho, ⟨hv1, hv2⟩, -⟩ := hP j hj
        have hk6 : P.2 j 0 = 6 := by omega
        simp only [runL] at e1
        rw [if_neg (by omega), if_pos hk6] at e1
        rw [e5, w1 (by omega), w32_id (by omega)]
        have st := hw1.st (k := 5) (v := ((wA.2.1 + 1 : Nat) : Int)) (w' := (wA.1, wA.2.1 + 1, wA.2.2)) hcm ha hS.2.1 FrR.rf hS.2.2.1 hS.2.2.2 (by omega) rfl (by rw [ms_eq]) (by rw [ms_nk (by decide), e6]) (by rw [ms_nk (by decide), e7]) (by dsimp only; omega)
        refine hA d _ K _ j (wA.1, wA.2.1 + 1, wA.2.2) (by omega) hK (x1.set (by decide +kernel)) st.2 hj hk6 (fun M2 x2 f2 w2 => Bk_n ?_)
        have r39 : M2 39 j = P.2 j 3 := (w2.2.2.1 j hj).2.2.2
        refine u71_54 hK x2 ha hcm ⟨by omega, ?_⟩
        have ev : w32 (jmax (j : Int) (w32 (M2 39 (Int.toNat (j : Int)) - 1)) + 1) = (((P.2 j 3).toNat : Nat) : Int) := by
          rw [Int.toNat_natCast, r39, w32_id (z := P.2 j 3 - 1) (by omega), jmax_eq, w32_id (by omega)]; omega
        rw [ev]
        exact ih _ (by omega) (by omega) _ _ x2 ((f1.tr st.1).tr f2) w2 e1
  exact loop 150 i (by omega) hi M w hX FrR.rf h hW.symm
theorem g72 {D : Nat} {op : Int} {R : Nat → Nat → WK → WK} (ha : isO 923 a 3 = true) (hcm : isO 923 cm 0 = true) (hP : PVc c P) (hP1 : P.1 ≤ 51) (hop : 0 ≤ op ∧ op ≤ 6) (hR : CtR cm a l c L P D op R) : CtG cm a l c L P (D + 1) op (fun i w => runG (R (i + 1) (P.2 i 3).toNat) (P.2 i 1).toNat w) := by
  intro d M K Q i w hd hK hX h hi hk6 k
  obtain ⟨d, rfl⟩ : ∃ e, d = e + 1 := ⟨d - 1, by omega⟩
  obtain ⟨⟨-, -, -, ho⟩, ⟨hv1, hv2⟩, -⟩ := hP i hi
  have ho' := ho hk6
  refine u72_0 hK hX ha hcm ?_
  simp only [] at k
  generalize hW : runG (R (i + 1) (P.2 i 3).toNat) (P.2 i 1).toNat w = W9 at k
  have loop : ∀ f j, j + f = (P.2 i 1).toNat → ∀ M1 wA, FX M1 → FrR a M M1 → WKc M1 cm a l c L P wA → W9 = runG (R (i + 1) (P.2 i 3).toNat) f wA → Wp (d + 1) 72 3 [vR 35, vR a, vR cm, vI (i : Int), vI op, vI (j : Int)] [] M1 K Q := by
    intro f
    induction f with
    | zero =>
      intro j h1 M1 wA x1 f1 hwA e1
      have r37 : M1 37 i = P.2 i 1 := (hwA.2.2.1 i hi).2.1
      simp only [runG] at e1
      refine u72_3 hK x1 ha hcm ⟨by omega, fun _ => k M1 x1 f1 (by rw [e1]; exact hwA), fun h => ?_⟩
      rw [Int.toNat_natCast, r37] at h
      exact absurd (by omega) h
    | succ f ih =>
      intro j h1 M1 wA x1 f1 hwA e1
      obtain ⟨-, r37, -, r39⟩ := hwA.2.2.1 i hi
      obtain ⟨e5, -, -⟩ := hwA.2.2.2.1
      simp only [runG] at e1
      refine u72_3 hK x1 ha hcm ⟨by omega, fun h => ?_, fun _ => ⟨fun h2 => ?_, fun h2 => ⟨fun h3 => absurd h3 (by omega), fun _ => ⟨by omega, ?_⟩⟩⟩⟩
      · rw [Int.toNat_natCast, r37] at h
        exact absurd h (by omega)
      · rw [if_pos (by omega)] at e1
        exact k M1 x1 f1 (by rw [e1]; exact hwA)
      · rw [if_neg (by omega)] at e1
        rw [w1 (by omega), Int.toNat_natCast, r39]
        have e39 : P.2 i 3 = (((P.2 i 3).toNat : Nat) : Int) := by omega
        rw [e39]
        refine hR d M1 K _ (i + 1) (P.2 i 3).toNat wA (by omega) hK x1 hwA (by omega) (by omega) (fun M2 x2 f2 w2 => Bk_n ?_)
        refine u72_48 hK x2 ha hcm ?_
        rw [w1 (by omega)]
        exact ih (j + 1) (by omega) M2 _ x2 (f1.tr f2) w2 e1
  exact loop (P.2 i 1).toNat 0 (by omega) M w hX FrR.rf h hW.symm
theorem g72x {op : Int} (ha : isO 923 a 3 = true) (hcm : isO 923 cm 0 = true) (hP1 : P.1 ≤ 51) (hop : op = 7) : CtG cm a l c L P 1 op (fun _ w => w) := by
  intro d M K Q i w hd hK hX h hi _ k
  obtain ⟨d, rfl⟩ : ∃ e, d = e + 1 := ⟨d - 1, by omega⟩
  refine u72_0 hK hX ha hcm (u72_3 hK hX ha hcm ⟨by omega, fun _ => k M hX FrR.rf h, fun _ => ⟨fun _ => k M hX FrR.rf h, fun _ => ⟨fun _ => k M hX FrR.rf h, fun h => absurd h (by omega)⟩⟩⟩)
theorem CtG.cg {D D' : Nat} {op : Int} {F : Nat → WK → WK} (h : CtG cm a l c L P D op F) (hd : D ≤ D') : CtG cm a l c L P D' op F := fun d M K Q i w h1 => h d M K Q i w (by omega)
theorem run_ok (ha : isO 923 a 3 = true) (hcm : isO 923 cm 0 = true) (hP : PVc c P) (hP1 : P.1 ≤ 51) : ∀ r, r ≤ 6 → CtR cm a l c L P (2 * r + 5) (6 - (r : Int)) (runN c L P r) := by
  intro r
  induction r with
  | zero =>
    intro _
    exact g71 ha hcm hP hP1 (by omega) ((g72x ha hcm hP1 (by omega)).cg (by omega)) (by omega)
  | succ r ih =>
    intro hr
    have e : (6 : Int) - ((r + 1 : Nat) : Int) + 1 = 6 - (r : Int) := by omega
    refine g71 (D := 2 * r + 6) ha hcm hP hP1 (by omega) ?_ (by omega)
    rw [e]
    exact g72 ha hcm hP hP1 (by omega) (ih (by omega))
theorem g70 {s : Mem} (hK : K.1 = 923) (hX : FX M) (ha : isO 923 a 3 = true) (hcm : isO 923 cm 0 = true) (h : SKc M cm a c s ∧ LWC M cm L l ∧ PR M P ∧ PVc c P ∧ P.1 ≤ 51) (k : ∀ M', FX M' → (FrR a M M' ∧ WKc M' cm a l c L P (runP c L P s)) → Q (.inl none) M' K) : Wm (d + 18) 70 [vR 35, vR a, vR cm] M K Q := by
  obtain ⟨hS, hL, hPr, hP, hP1⟩ := h
  have fr : FrR a M (mset (mset (mset M 35 5 0) 35 6 0) 35 7 0) := ((FrR.rf.up (by omega)).up (by omega)).up (by omega)
  have hr3 := rg3 ha
  refine u70_0 hK hX ha hcm ?_
  rw [hPr.1]
  refine run_ok ha hcm hP hP1 6 (by omega) _ _ K _ 0 P.1 (s, 0, 0, 0) (by omega) hK (((hX.set (by decide +kernel)).set (by decide +kernel)).set (by decide +kernel)) ⟨⟨hS.1.rr hcm ha fr, hS.2.1, ((hS.2.2.1.rr ha).rr ha).rr ha, hS.2.2.2⟩, hL.rr hcm ha fr, fun j hj => ?_, ⟨by rw [ms_nk (by decide), ms_nk (by decide), ms_eq]; rfl, by rw [ms_nk (by decide), ms_eq]; rfl, by rw [ms_eq]; rfl⟩, Nat.zero_le _, Nat.zero_le _, Nat.zero_le _⟩ (by omega) (by omega) (fun M2 x2 f2 w2 => Bk_n (u70_27 hK x2 ha hcm (k M2 x2 ⟨fr.tr f2, w2⟩)))
  rw [fr 36 j (by unfold scL; omega) (by omega) (by omega), fr 37 j (by unfold scL; omega) (by omega) (by omega), fr 38 j (by unfold scL; omega) (by omega) (by omega), fr 39 j (by unfold scL; omega) (by omega) (by omega)]
  exact hPr.2 j hj
end RU
