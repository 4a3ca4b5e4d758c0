/-! how much a strip whitens -/
def fcts (a0 a1 a2 a3 a4 a5 a6 a7 : Int) : Nat → Int := fun j => if j = 0 then a0 else if j = 1 then a1 else if j = 2 then a2 else if j = 3 then a3 else if j = 4 then a4 else if j = 5 then a5 else if j = 6 then a6 else a7
theorem ex_c {fa fb : Nat → Int} {c : Int × Int} {s : SK} (h : ∀ j, j < 8 → fa j = fb j) (hk : KO c) : ex fa c s = ex fb c s := by
  unfold ex
  split
  · rcases hk with hk | hk | hk
    · simp [hk.1]
    · have := h c.2.toNat (by omega)
      simp [this]
    · omega
  · rfl
theorem evA_c {fa fb : Nat → Int} (h : ∀ j, j < 8 → fa j = fb j) : ∀ (L : LC) (s : SK), (∀ c ∈ L, KO c) → L.foldl (fun s c => ex fa c s) s = L.foldl (fun s c => ex fb c s) s := by
  intro L
  induction L with
  | nil => intro s _; rfl
  | cons c L ih =>
    intro s hk
    simp only [List.foldl_cons]
    rw [ex_c h (hk c (by simp)), ih _ (fun x hx => hk x (List.mem_cons_of_mem _ hx))]
theorem Vd_KO : ∀ {L : LC} {a b : Nat}, Vd L a b → ∀ c ∈ L, KO c := by
  intro L
  induction L with
  | nil => intro a b _ c hc; simp at hc
  | cons x r ih =>
    intro a b h c hc
    simp only [Vd] at h
    rw [List.mem_cons] at hc
    rcases hc with rfl | hc
    · exact h.1
    · have h2 := h.2
      split at h2
      · exact ih h2 c hc
      · exact ih h2.2 c hc
theorem wh_c {fa fb : Nat → Int} {L : LC} (h : ∀ j, j < 8 → fa j = fb j) (hv : Vd (eff L) 0 1) : wh fa L = wh fb L := by
  unfold wh evA
  rw [evA_c h _ _ (Vd_KO hv)]
theorem wh_rg {fa : Nat → Int} {L : LC} : 0 ≤ wh fa L ∧ wh fa L ≤ 99 := by unfold wh clmp; omega
/-- how much the strip p whitens from the cell x on by such facts -/
def whB (c : Mem) (L : LC) (p : Nat) (x g rain wet milk dy : Int) : Int := wh (fcts (sunS c x (c 2 p)) (c 2 p) g rain wet milk dy x) L
def whN (c s : Mem) (L : LC) (p : Nat) (rain : Int) : Int := if s 0 p = -1 then 0 else whB c L p (s 0 p) (s 1 p) rain (s 2 p) (s 3 p) (s 4 0)
def whD (c s : Mem) (L : LC) (p : Nat) (x : Int) : Int := whB c L p x (s 1 p) (rainS c (s 4 0)) 0 0 (s 4 0)
theorem whB_rg {c : Mem} {L : LC} {p : Nat} {x g rain wet milk dy : Int} : 0 ≤ whB c L p x g rain wet milk dy ∧ whB c L p x g rain wet milk dy ≤ 99 := wh_rg
theorem whN_rg {c s : Mem} {L : LC} {p : Nat} {rain : Int} : 0 ≤ whN c s L p rain ∧ whN c s L p rain ≤ 99 := by
  unfold whN; split
  · decide
  · exact wh_rg
/-- the class's law in force: l, the law of the common cm -/
def LWC (M : Mem) (cm : Nat) (L : LC) (l : Nat) : Prop := M cm 11 = (l : Int) ∧ isO 923 l 2 = true ∧ CR M l (eff L) ∧ Vd (eff L) 0 1
/-- facts and stacks of laws -/
def scL (a : Nat) : Prop := a = 160 ∨ a = 162 ∨ a = 170 ∨ a = 172 ∨ a = 174 ∨ a = 176
def FrW (M M' : Mem) : Prop := ∀ a k, ¬ scL a → M' a k = M a k
theorem FrW.rf {M : Mem} : FrW M M := fun _ _ _ => rfl
theorem FrW.tr {M M1 M2 : Mem} (h1 : FrW M M1) (h2 : FrW M1 M2) : FrW M M2 := fun a k h => (h2 a k h).trans (h1 a k h)
theorem scL_fx : ∀ a, a < 923 → (a = 160 ∨ a = 162 ∨ a = 170 ∨ a = 172 ∨ a = 174 ∨ a = 176) → isO 923 a 20 = true := by decide +kernel
theorem FrW.fx {M M' : Mem} (h : FrW M M') (hX : FX M) : FX M' := hX.fr (fun a k hk => h a k (fun hs => by
  have h9 := scL_fx a (by unfold scL at hs; omega) hs
  have := nfa h9 k
  omega))
theorem Fr1.W {l : Nat} {M M' : Mem} (hl : isO 923 l 2 = true) (h : Fr1 (l + 1) M M') : FrW M M' := fun a k hs => h a k (fun e => hs (by unfold scL; have := rg2 hl; omega))
theorem FrK.W {l : Nat} {M M' : Mem} (hl : isO 923 l 2 = true) (h : FrK l M M') : FrW M M' := fun a k hs => h a k (fun e => hs (by unfold scL; have := rg2 hl; omega))
section WA1
variable {M M' : Mem} {cm a l : Nat} {c s : Mem} {L : LC}
theorem CC.w (hcm : isO 923 cm 0 = true) (hf : FrW M M') (h : CC M cm c) : CC M' cm c := by
  have hr := rg0 hcm
  exact ⟨fun k hk => (hf cm (5 + k) (by unfold scL; omega)).trans (h.1 k hk), fun b h1 h2 i hi => (hf (cm + b) i (by unfold scL; omega)).trans (h.2 b h1 h2 i hi)⟩
theorem LK.w (ha : isO 923 a 3 = true) (hf : FrW M M') (h : LK M a c s) : LK M' a c s := by
  have hr := rg3 ha
  have e : ∀ b k, a ≤ b → b ≤ a + 4 → M' b k = M b k := fun b k h1 h2 => hf b k (by unfold scL; omega)
  refine ⟨fun p hp => ?_, (e a 4 (by omega) (by omega)).trans h.2.1, (e a 5 (by omega) (by omega)).trans h.2.2⟩
  rw [e _ _ (by omega) (by omega), e _ _ (by omega) (by omega), e _ _ (by omega) (by omega), e _ _ (by omega) (by omega)]
  exact h.1 p hp
theorem SKc.w (hcm : isO 923 cm 0 = true) (ha : isO 923 a 3 = true) (hf : FrW M M') (h : SKc M cm a c s) : SKc M' cm a c s := ⟨h.1.w hcm hf, h.2.1, h.2.2.1.w ha hf, h.2.2.2⟩
theorem LWC.w (hcm : isO 923 cm 0 = true) (hf : FrW M M') (h : LWC M cm L l) : LWC M' cm L l := by
  have hr := rg0 hcm
  have hr2 := rg2 h.2.1
  refine ⟨(hf cm 11 (by unfold scL; omega)).trans h.1, h.2.1, ⟨(hf l 3 (by unfold scL; omega)).trans h.2.2.1.1, h.2.2.1.2.1, fun i hi => (hf (l + 2) i (by unfold scL; omega)).trans (h.2.2.1.2.2 i hi)⟩, h.2.2.2⟩
end WA1
theorem u46_0 {d : Nat} {l0 : Nat} {l1 : Nat} {l2 : Int} {l3 : Int} {M : Mem} {K : KK} {Q : RR → Mem → KK → Prop} (hK : K.1 = 923) (hX : FX M) (k0 : isO 923 l0 3 = true) (k1 : isO 923 l1 0 = true) (h : ∃ b1 : Nat, (M l1 11) = (b1 : Int) ∧ isO 923 b1 2 = true ∧ (0 ≤ l2 ∧ l2 < (6 : Int)) ∧ ∃ c5 : Mem, (CC M l1 c5 ∧ CW c5 ∧ (l3 = -1 ∨ (0 ≤ l3 ∧ l3 + (M (l1 + 2) (Int.toNat l2)) ≤ c5 0 0)) ∧ 0 ≤ (M (l1 + 2) (Int.toNat l2)) ∧ (M (l1 + 2) (Int.toNat l2)) ≤ 12) ∧ (0 ≤ l2 ∧ l2 < (6 : Int)) ∧ (0 ≤ l2 ∧ l2 < (6 : Int)) ∧ ∃ c12 : Mem, (CC (mset (mset (mset M (b1 + 1) 0 (sunS c5 l3 (M (l1 + 2) (Int.toNat l2)))) (b1 + 1) 1 (M (l1 + 2) (Int.toNat l2))) (b1 + 1) 2 (M (l0 + 1) (Int.toNat l2))) l1 c12 ∧ CW c12) ∧ Q (.inl (some (vR (b1 + 1)))) (mset (mset (mset (mset (mset (mset (mset (mset M (b1 + 1) 0 (sunS c5 l3 (M (l1 + 2) (Int.toNat l2)))) (b1 + 1) 1 (M (l1 + 2) (Int.toNat l2))) (b1 + 1) 2 (M (l0 + 1) (Int.toNat l2))) (b1 + 1) 3 (rainS c12 (M l0 4))) (b1 + 1) 4 (0 : Int)) (b1 + 1) 5 (0 : Int)) (b1 + 1) 6 (M l0 4)) (b1 + 1) 7 l3) K) : Wp (d + 1) 46 0 [vR l0, vR l1, vI l2, vI l3, vU] [] M K Q := by
  refine r_aload_n c46_0 rfl ?_
  obtain ⟨b1, h⟩ := h
  obtain ⟨e2, h⟩ := h
  obtain ⟨k3, h⟩ := h
  refine r_getR c46_1 (oK hK k1) e2 (by have := (isO_d k3).1; omega) ?_
  refine r_getR c46_4 (oK hK k3) (fx2_0 hX k3) (by omega) ?_
  refine r_astore c46_7 (Nat.le_of_ble_eq_true rfl) ?_
  refine r_aload c46_9 rfl ?_
  refine r_iconst c46_11 ?_
  refine r_aload_n c46_12 rfl ?_
  refine r_iload_n c46_13 rfl ?_
  refine r_aload_n c46_14 rfl ?_
  refine r_getR c46_15 (oK hK k1) (fx0_1 hX k1) (by omega) ?_
  refine r_iload_n c46_18 rfl ?_
  obtain ⟨s4, h⟩ := h
  refine r_iae c46_19 (oK hK (q0_1 k1)) (bd (z0_1 k1) s4) rfl ?_
  obtain ⟨c5, h⟩ := h
  obtain ⟨p6, h⟩ := h
  refine r_call c46_20 rfl rfl (Nat.le_of_ble_eq_true rfl) (okc_r rfl rfl (oK hK k1)) (g8 hK hX k1 p6 (Bk_v ?_))
  refine r_ias c46_23 (oK hK (q2_0 k3)) (bd (z2_0 k3) (by decide)) ?_
  have x7 := FX.set (v := (sunS c5 l3 (M (l1 + 2) (Int.toNat l2)))) (a := (b1 + 1)) (k := 0) hX (nfa (q2_0 k3) _)
  refine r_aload c46_24 rfl ?_
  refine r_iconst c46_26 ?_
  refine r_aload_n c46_27 rfl ?_
  refine r_getR c46_28 (oK hK k1) (fx0_1 x7 k1) (by omega) ?_
  refine r_iload_n c46_31 rfl ?_
  obtain ⟨s8, h⟩ := h
  refine r_iae c46_32 (oK hK (q0_1 k1)) (bd (z0_1 k1) s8) (ms_na (by have := rg0 k1; have := rg2 k3; omega)) ?_
  refine r_ias c46_33 (oK hK (q2_0 k3)) (bd (z2_0 k3) (by decide)) ?_
  have x9 := FX.set (v := (M (l1 + 2) (Int.toNat l2))) (a := (b1 + 1)) (k := 1) x7 (nfa (q2_0 k3) _)
  refine r_aload c46_34 rfl ?_
  refine r_iconst c46_36 ?_
  refine r_aload_n c46_37 rfl ?_
  refine r_getR c46_38 (oK hK k0) (fx3_0 x9 k0) (by omega) ?_
  refine r_iload_n c46_41 rfl ?_
  obtain ⟨s10, h⟩ := h
  refine r_iae c46_42 (oK hK (q3_0 k0)) (bd (z3_0 k0) s10) (Eq.trans (ms_na (by have := rg3 k0; have := rg2 k3; omega)) (ms_na (by have := rg3 k0; have := rg2 k3; omega))) ?_
  refine r_ias c46_43 (oK hK (q2_0 k3)) (bd (z2_0 k3) (by decide)) ?_
  have x11 := FX.set (v := (M (l0 + 1) (Int.toNat l2))) (a := (b1 + 1)) (k := 2) x9 (nfa (q2_0 k3) _)
  refine r_aload c46_44 rfl ?_
  refine r_iconst c46_46 ?_
  refine r_aload_n c46_47 rfl ?_
  refine r_aload_n c46_48 rfl ?_
  refine r_getIe c46_49 (oK hK k0) (Eq.trans (ms_na (by have := rg3 k0; have := rg2 k3; omega)) (Eq.trans (ms_na (by have := rg3 k0; have := rg2 k3; omega)) (ms_na (by have := rg3 k0; have := rg2 k3; omega)))) ?_
  obtain ⟨c12, h⟩ := h
  obtain ⟨p13, h⟩ := h
  refine r_call c46_52 rfl rfl (Nat.le_of_ble_eq_true rfl) (okc_r rfl rfl (oK hK k1)) (g7 hK x11 k1 p13 (Bk_v ?_))
  refine r_ias c46_55 (oK hK (q2_0 k3)) (bd (z2_0 k3) (by decide)) ?_
  have x14 := FX.set (v := (rainS c12 (M l0 4))) (a := (b1 + 1)) (k := 3) x11 (nfa (q2_0 k3) _)
  refine r_aload c46_56 rfl ?_
  refine r_iconst c46_58 ?_
  refine r_iconst c46_59 ?_
  refine r_ias c46_60 (oK hK (q2_0 k3)) (bd (z2_0 k3) (by decide)) ?_
  have x15 := FX.set (v := (0 : Int)) (a := (b1 + 1)) (k := 4) x14 (nfa (q2_0 k3) _)
  refine r_aload c46_61 rfl ?_
  refine r_iconst c46_63 ?_
  refine r_iconst c46_64 ?_
  refine r_ias c46_65 (oK hK (q2_0 k3)) (bd (z2_0 k3) (by decide)) ?_
  have x16 := FX.set (v := (0 : Int)) (a := (b1 + 1)) (k := 5) x15 (nfa (q2_0 k3) _)
  refine r_aload c46_66 rfl ?_
  refine r_bipush c46_68 ?_
  refine r_aload_n c46_70 rfl ?_
  refine r_getIe c46_71 (oK hK k0) (Eq.trans (ms_na (by have := rg3 k0; have := rg2 k3; omega)) (Eq.trans (ms_na (by have := rg3 k0; have := rg2 k3; omega)) (Eq.trans (ms_na (by have := rg3 k0; have := rg2 k3; omega)) (Eq.trans (ms_na (by have := rg3 k0; have := rg2 k3; omega)) (Eq.trans (ms_na (by have := rg3 k0; have := rg2 k3; omega)) (ms_na (by have := rg3 k0; have := rg2 k3; omega))))))) ?_
  refine r_ias c46_74 (oK hK (q2_0 k3)) (bd (z2_0 k3) (by decide)) ?_
  have x17 := FX.set (v := (M l0 4)) (a := (b1 + 1)) (k := 6) x16 (nfa (q2_0 k3) _)
  refine r_aload c46_75 rfl ?_
  refine r_bipush c46_77 ?_
  refine r_iload_n c46_79 rfl ?_
  refine r_ias c46_80 (oK hK (q2_0 k3)) (bd (z2_0 k3) (by decide)) ?_
  have x18 := FX.set (v := l3) (a := (b1 + 1)) (k := 7) x17 (nfa (q2_0 k3) _)
  refine r_aload c46_81 rfl ?_
  exact r_aret c46_83 h
section WB
variable {d : Nat} {M : Mem} {K : KK} {Q : RR → Mem → KK → Prop} {cm a l p : Nat} {c s : Mem} {L : LC}
theorem g46 {v x : Int} (hK : K.1 = 923) (hX : FX M) (ha : isO 923 a 3 = true) (hcm : isO 923 cm 0 = true) (h : v = (p : Int) ∧ SKc M cm a c s ∧ LWC M cm L l ∧ p < nSt c ∧ (x = -1 ∨ (0 ≤ x ∧ x + c 2 p ≤ c 0 0))) (k : ∀ M', FX M' → (Fr1 (l + 1) M M' ∧ ∀ j, j < 8 → M' (l + 1) j = fcts (sunS c x (c 2 p)) (c 2 p) (s 1 p) (rainS c (s 4 0)) 0 0 (s 4 0) x j) → Q (.inl (some (vR (l + 1)))) M' K) : Wm (d + 1) 46 [vR a, vR cm, vI v, vI x] M K Q := by
  obtain ⟨rfl, ⟨hc, hw, hl, hlw⟩, hL, hp, hx⟩ := h
  have hn := hw.n.1
  have hn0 := hw.n.2.1
  have hy := hw.y hp
  obtain ⟨-, f1, -⟩ := hl.1 p hp
  obtain ⟨hL1, hL2, -⟩ := hL
  have hr2 := rg2 hL2
  have hr3 := rg3 ha
  have hr0 := rg0 hcm
  have ey : M (cm + 2) (Int.toNat (p : Int)) = c 2 p := by rw [Int.toNat_natCast, hc.a2 (by omega)]
  have ed : M a 4 = s 4 0 := hl.2.1
  have eg : M (a + 1) (Int.toNat (p : Int)) = s 1 p := by rw [Int.toNat_natCast]; exact f1
  have fu : ∀ (M1 : Mem) (i : Nat) (v : Int), Fr1 (l + 1) M M1 → Fr1 (l + 1) M (mset M1 (l + 1) i v) := fun M1 i v h => h.up
  have xu : ∀ (M1 : Mem) (i : Nat) (v : Int), FX M1 → FX (mset M1 (l + 1) i v) := fun M1 i v h => h.set (nfa (q2_0 hL2) i)
  refine u46_0 hK hX ha hcm ⟨l, hL1, hL2, by omega, c, ⟨hc, hw, by rw [ey]; exact hx, by rw [ey]; omega, by rw [ey]; omega⟩, by omega, by omega, c, ⟨?_, hw⟩, ?_⟩
  · exact hc.w hcm (Fr1.W hL2 (fu _ _ _ (fu _ _ _ (fu _ _ _ (fun _ _ _ => rfl)))))
  · rw [ey, eg, ed]
    refine k _ (xu _ _ _ (xu _ _ _ (xu _ _ _ (xu _ _ _ (xu _ _ _ (xu _ _ _ (xu _ _ _ (xu _ _ _ hX)))))))) ⟨fu _ _ _ (fu _ _ _ (fu _ _ _ (fu _ _ _ (fu _ _ _ (fu _ _ _ (fu _ _ _ (fu _ _ _ (fun _ _ _ => rfl)))))))), fun j hj => ?_⟩
    rcases (show j = 0 ∨ j = 1 ∨ j = 2 ∨ j = 3 ∨ j = 4 ∨ j = 5 ∨ j = 6 ∨ j = 7 by omega) with rfl | rfl | rfl | rfl | rfl | rfl | rfl | rfl <;> simp [mset, fcts]
end WB
theorem u44_0 {d : Nat} {l0 : Nat} {l1 : Nat} {l2 : Int} {l3 : Int} {M : Mem} {K : KK} {Q : RR → Mem → KK → Prop} (hK : K.1 = 923) (hX : FX M) (k0 : isO 923 l0 3 = true) (k1 : isO 923 l1 0 = true) (h : (0 ≤ l2 ∧ l2 < (6 : Int)) ∧ (¬ (M (l0 + 2) (Int.toNat l2)) = (-1 : Int) → (0 ≤ l2 ∧ l2 < (6 : Int)) ∧ ∃ c5 : Mem, ∃ s6 : Mem, ∃ L7 : LC, ∃ la8 : Nat, ∃ p9 : Nat, (l2 = (p9 : Int) ∧ SKc M l1 l0 c5 s6 ∧ LWC M l1 L7 la8 ∧ p9 < nSt c5 ∧ ((M (l0 + 2) (Int.toNat l2)) = -1 ∨ (0 ≤ (M (l0 + 2) (Int.toNat l2)) ∧ (M (l0 + 2) (Int.toNat l2)) + c5 2 p9 ≤ c5 0 0))) ∧ (∀ (M13 : Mem), FX M13 → (Fr1 (la8 + 1) M M13 ∧ ∀ j, j < 8 → M13 (la8 + 1) j = fcts (sunS c5 (M (l0 + 2) (Int.toNat l2)) (c5 2 p9)) (c5 2 p9) (s6 1 p9) (rainS c5 (s6 4 0)) 0 0 (s6 4 0) (M (l0 + 2) (Int.toNat l2)) j) → isO 923 la8 2 = true ∧ (0 ≤ l2 ∧ l2 < (6 : Int)) ∧ (0 ≤ l2 ∧ l2 < (6 : Int)) ∧ ∃ b20 : Nat, (M13 l1 11) = (b20 : Int) ∧ isO 923 b20 2 = true ∧ ∃ L23 : LC, (CR (mset (mset (mset M13 (la8 + 1) 3 l3) (la8 + 1) 4 (M13 (l0 + 3) (Int.toNat l2))) (la8 + 1) 5 (M13 (l0 + 4) (Int.toNat l2))) b20 L23 ∧ Vd L23 0 1) ∧ (∀ (M27 : Mem), FX M27 → FrK b20 (mset (mset (mset M13 (la8 + 1) 3 l3) (la8 + 1) 4 (M13 (l0 + 3) (Int.toNat l2))) (la8 + 1) 5 (M13 (l0 + 4) (Int.toNat l2))) M27 → Q (.inl (some (vI (clmp ((evA ((mset (mset (mset M13 (la8 + 1) 3 l3) (la8 + 1) 4 (M13 (l0 + 3) (Int.toNat l2))) (la8 + 1) 5 (M13 (l0 + 4) (Int.toNat l2))) (b20 + 1)) L23).2 0))))) M27 K))) ∧ ((M (l0 + 2) (Int.toNat l2)) = (-1 : Int) → Q (.inl (some (vI (0 : Int)))) M K)) : Wp (d + 2) 44 0 [vR l0, vR l1, vI l2, vI l3, vU] [] M K Q := by
  refine r_aload_n c44_0 rfl ?_
  refine r_getR c44_1 (oK hK k0) (fx3_1 hX k0) (by omega) ?_
  refine r_iload_n c44_4 rfl ?_
  obtain ⟨s1, h⟩ := h
  refine r_iae c44_5 (oK hK (q3_1 k0)) (bd (z3_1 k0) s1) rfl ?_
  refine r_iconst c44_6 ?_
  refine r_icmpP (P := ¬ (M (l0 + 2) (Int.toNat l2)) = (-1 : Int)) c44_7 rfl (fun hc2 => ?_) (fun hc2 => ?_)
  · replace h := h.1 hc2
    refine r_aload_n c44_12 rfl ?_
    refine r_aload_n c44_13 rfl ?_
    refine r_iload_n c44_14 rfl ?_
    refine r_aload_n c44_15 rfl ?_
    refine r_getR c44_16 (oK hK k0) (fx3_1 hX k0) (by omega) ?_
    refine r_iload_n c44_19 rfl ?_
    obtain ⟨s4, h⟩ := h
    refine r_iae c44_20 (oK hK (q3_1 k0)) (bd (z3_1 k0) s4) rfl ?_
    obtain ⟨c5, h⟩ := h
    obtain ⟨s6, h⟩ := h
    obtain ⟨L7, h⟩ := h
    obtain ⟨la8, h⟩ := h
    obtain ⟨p9, h⟩ := h
    obtain ⟨p10, h⟩ := h
    refine r_call c44_21 rfl rfl (Nat.le_of_ble_eq_true rfl) (okc_r rfl rfl (oK hK k0)) (g46 hK hX k0 k1 p10 (fun M13 x11 p12 => Bk_v ?_))
    replace h := h M13 x11 p12
    obtain ⟨kl14, h⟩ := h
    refine r_astore c44_24 (Nat.le_of_ble_eq_true rfl) ?_
    refine r_aload c44_26 rfl ?_
    refine r_iconst c44_28 ?_
    refine r_iload_n c44_29 rfl ?_
    refine r_ias c44_30 (oK hK (q2_0 kl14)) (bd (z2_0 kl14) (by decide)) ?_
    have x15 := FX.set (v := l3) (a := (la8 + 1)) (k := 3) x11 (nfa (q2_0 kl14) _)
    refine r_aload c44_31 rfl ?_
    refine r_iconst c44_33 ?_
    refine r_aload_n c44_34 rfl ?_
    refine r_getR c44_35 (oK hK k0) (fx3_2 x15 k0) (by omega) ?_
    refine r_iload_n c44_38 rfl ?_
    obtain ⟨s16, h⟩ := h
    refine r_iae c44_39 (oK hK (q3_2 k0)) (bd (z3_2 k0) s16) (ms_na (by have := rg3 k0; have := rg2 kl14; omega)) ?_
    refine r_ias c44_40 (oK hK (q2_0 kl14)) (bd (z2_0 kl14) (by decide)) ?_
    have x17 := FX.set (v := (M13 (l0 + 3) (Int.toNat l2))) (a := (la8 + 1)) (k := 4) x15 (nfa (q2_0 kl14) _)
    refine r_aload c44_41 rfl ?_
    refine r_iconst c44_43 ?_
    refine r_aload_n c44_44 rfl ?_
    refine r_getR c44_45 (oK hK k0) (fx3_3 x17 k0) (by omega) ?_
    refine r_iload_n c44_48 rfl ?_
    obtain ⟨s18, h⟩ := h
    refine r_iae c44_49 (oK hK (q3_3 k0)) (bd (z3_3 k0) s18) (Eq.trans (ms_na (by have := rg3 k0; have := rg2 kl14; omega)) (ms_na (by have := rg3 k0; have := rg2 kl14; omega))) ?_
    refine r_ias c44_50 (oK hK (q2_0 kl14)) (bd (z2_0 kl14) (by decide)) ?_
    have x19 := FX.set (v := (M13 (l0 + 4) (Int.toNat l2))) (a := (la8 + 1)) (k := 5) x17 (nfa (q2_0 kl14) _)
    refine r_aload_n c44_51 rfl ?_
    obtain ⟨b20, h⟩ := h
    obtain ⟨e21, h⟩ := h
    obtain ⟨k22, h⟩ := h
    refine r_getR c44_52 (oK hK k1) (Eq.trans (Eq.trans (ms_na (by have := rg0 k1; have := rg2 kl14; omega)) (Eq.trans (ms_na (by have := rg0 k1; have := rg2 kl14; omega)) (ms_na (by have := rg0 k1; have := rg2 kl14; omega)))) e21) (by have := (isO_d k22).1; omega) ?_
    obtain ⟨L23, h⟩ := h
    obtain ⟨p24, h⟩ := h
    refine r_call c44_55 rfl rfl (Nat.le_of_ble_eq_true rfl) (okc_r rfl rfl (oK hK k22)) (g26 hK x19 k22 p24 (fun M27 x25 p26 => Bk_v ?_))
    replace h := h M27 x25 p26
    exact r_iret c44_58 (Or.inl rfl) h
  · have hc3 := Classical.not_not.mp hc2
    replace h := h.2 hc3
    refine r_iconst c44_10 ?_
    exact r_iret c44_11 (Or.inl rfl) h
theorem u45_0 {d : Nat} {l0 : Nat} {l1 : Nat} {l2 : Int} {l3 : Int} {M : Mem} {K : KK} {Q : RR → Mem → KK → Prop} (hK : K.1 = 923) (hX : FX M) (k0 : isO 923 l0 3 = true) (k1 : isO 923 l1 0 = true) (h : ∃ c1 : Mem, ∃ s2 : Mem, ∃ L3 : LC, ∃ la4 : Nat, ∃ p5 : Nat, (l2 = (p5 : Int) ∧ SKc M l1 l0 c1 s2 ∧ LWC M l1 L3 la4 ∧ p5 < nSt c1 ∧ (l3 = -1 ∨ (0 ≤ l3 ∧ l3 + c1 2 p5 ≤ c1 0 0))) ∧ (∀ (M9 : Mem), FX M9 → (Fr1 (la4 + 1) M M9 ∧ ∀ j, j < 8 → M9 (la4 + 1) j = fcts (sunS c1 l3 (c1 2 p5)) (c1 2 p5) (s2 1 p5) (rainS c1 (s2 4 0)) 0 0 (s2 4 0) l3 j) → isO 923 la4 2 = true ∧ ∃ b11 : Nat, (M9 l1 11) = (b11 : Int) ∧ isO 923 b11 2 = true ∧ ∃ L14 : LC, (CR M9 b11 L14 ∧ Vd L14 0 1) ∧ (∀ (M18 : Mem), FX M18 → FrK b11 M9 M18 → Q (.inl (some (vI (clmp ((evA (M9 (b11 + 1)) L14).2 0))))) M18 K))) : Wp (d + 2) 45 0 [vR l0, vR l1, vI l2, vI l3] [] M K Q := by
  refine r_aload_n c45_0 rfl ?_
  refine r_aload_n c45_1 rfl ?_
  refine r_iload_n c45_2 rfl ?_
  refine r_iload_n c45_3 rfl ?_
  obtain ⟨c1, h⟩ := h
  obtain ⟨s2, h⟩ := h
  obtain ⟨L3, h⟩ := h
  obtain ⟨la4, h⟩ := h
  obtain ⟨p5, h⟩ := h
  obtain ⟨p6, h⟩ := h
  refine r_call c45_4 rfl rfl (Nat.le_of_ble_eq_true rfl) (okc_r rfl rfl (oK hK k0)) (g46 hK hX k0 k1 p6 (fun M9 x7 p8 => Bk_v ?_))
  replace h := h M9 x7 p8
  obtain ⟨kl10, h⟩ := h
  refine r_popr c45_7 ?_
  refine r_aload_n c45_8 rfl ?_
  obtain ⟨b11, h⟩ := h
  obtain ⟨e12, h⟩ := h
  obtain ⟨k13, h⟩ := h
  refine r_getR c45_9 (oK hK k1) e12 (by have := (isO_d k13).1; omega) ?_
  obtain ⟨L14, h⟩ := h
  obtain ⟨p15, h⟩ := h
  refine r_call c45_12 rfl rfl (Nat.le_of_ble_eq_true rfl) (okc_r rfl rfl (oK hK k13)) (g26 hK x7 k13 p15 (fun M18 x16 p17 => Bk_v ?_))
  replace h := h M18 x16 p17
  exact r_iret c45_15 (Or.inl rfl) h
section WC1
variable {d : Nat} {M : Mem} {K : KK} {Q : RR → Mem → KK → Prop} {cm a l p : Nat} {c s : Mem} {L : LC}
theorem Fr1.X {l : Nat} {M M' : Mem} (hl : isO 923 l 2 = true) (h : Fr1 (l + 1) M M') (hX : FX M) : FX M' := h.fx (q2_0 hl) hX
theorem g44 {v rain : Int} (hK : K.1 = 923) (hX : FX M) (ha : isO 923 a 3 = true) (hcm : isO 923 cm 0 = true) (h : v = (p : Int) ∧ SKc M cm a c s ∧ LWC M cm L l ∧ p < nSt c) (k : ∀ M', FX M' → FrW M M' → Q (.inl (some (vI (whN c s L p rain)))) M' K) : Wm (d + 2) 44 [vR a, vR cm, vI v, vI rain] M K Q := by
  obtain ⟨rfl, hs, hL, hp⟩ := h
  obtain ⟨hc, hw, hl, hlw⟩ := hs
  have hn := hw.n.1
  obtain ⟨f0, f1, f2, f3⟩ := hl.1 p hp
  obtain ⟨w0, -⟩ := hlw.1 p hp
  have e0 : M (a + 2) (Int.toNat (p : Int)) = s 0 p := by rw [Int.toNat_natCast]; exact f0
  have hr3 := rg3 ha
  have hr2 := rg2 hL.2.1
  unfold whN at k
  refine u44_0 hK hX ha hcm ⟨by omega, fun h => ⟨by omega, c, s, L, l, p, ⟨rfl, ⟨hc, hw, hl, hlw⟩, hL, hp, by rw [e0]; exact w0⟩, fun M1 x1 p1 => ?_⟩, fun h => ?_⟩
  · rw [e0] at h p1
    rw [if_neg h] at k
    have fW := Fr1.W hL.2.1 p1.1
    have hL1 := hL.w hcm fW
    have e3 : M1 (a + 3) (Int.toNat (p : Int)) = s 2 p := by rw [Int.toNat_natCast, p1.1 _ _ (by omega)]; exact f2
    have e4 : M1 (a + 4) (Int.toNat (p : Int)) = s 3 p := by rw [Int.toNat_natCast, p1.1 _ _ (by omega)]; exact f3
    have fu : Fr1 (l + 1) M (mset (mset (mset M1 (l + 1) 3 rain) (l + 1) 4 (M1 (a + 3) (Int.toNat (p : Int)))) (l + 1) 5 (M1 (a + 4) (Int.toNat (p : Int)))) := ((p1.1.up).up).up
    refine ⟨hL.2.1, by omega, by omega, l, hL1.1, hL.2.1, eff L, ⟨(hL.w hcm (Fr1.W hL.2.1 fu)).2.2.1, hL.2.2.2⟩, fun M2 x2 f2' => ?_⟩
    have := k M2 x2 ((Fr1.W hL.2.1 fu).tr (FrK.W hL.2.1 f2'))
    have e : clmp ((evA ((mset (mset (mset M1 (l + 1) 3 rain) (l + 1) 4 (M1 (a + 3) (Int.toNat (p : Int)))) (l + 1) 5 (M1 (a + 4) (Int.toNat (p : Int)))) (l + 1)) (eff L)).2 0) = whB c L p (s 0 p) (s 1 p) rain (s 2 p) (s 3 p) (s 4 0) := by
      show wh _ L = wh _ L
      refine wh_c (fun j hj => ?_) hL.2.2.2
      have hj1 := p1.2 j hj
      rw [e3, e4]
      rcases (show j = 0 ∨ j = 1 ∨ j = 2 ∨ j = 3 ∨ j = 4 ∨ j = 5 ∨ j = 6 ∨ j = 7 by omega) with rfl | rfl | rfl | rfl | rfl | rfl | rfl | rfl <;> simp [mset, fcts] at hj1 ⊢ <;> exact hj1
    rw [e]; exact this
  · rw [e0] at h
    rw [if_pos h] at k
    exact k M hX FrW.rf
theorem g45 {v x : Int} (hK : K.1 = 923) (hX : FX M) (ha : isO 923 a 3 = true) (hcm : isO 923 cm 0 = true) (h : v = (p : Int) ∧ SKc M cm a c s ∧ LWC M cm L l ∧ p < nSt c ∧ (x = -1 ∨ (0 ≤ x ∧ x + c 2 p ≤ c 0 0))) (k : ∀ M', FX M' → FrW M M' → Q (.inl (some (vI (whD c s L p x)))) M' K) : Wm (d + 2) 45 [vR a, vR cm, vI v, vI x] M K Q := by
  have hL := h.2.2.1
  refine u45_0 hK hX ha hcm ⟨c, s, L, l, p, h, fun M1 x1 p1 => ?_⟩
  have fW := Fr1.W hL.2.1 p1.1
  have hL1 := hL.w hcm fW
  refine ⟨hL.2.1, l, hL1.1, hL.2.1, eff L, ⟨hL1.2.2.1, hL.2.2.2⟩, fun M2 x2 f2 => ?_⟩
  have := k M2 x2 (fW.tr (FrK.W hL.2.1 f2))
  have e : clmp ((evA (M1 (l + 1)) (eff L)).2 0) = whD c s L p x := by
    show wh _ L = wh _ L
    exact wh_c p1.2 hL.2.2.2
  rw [e]; exact this
end WC1
