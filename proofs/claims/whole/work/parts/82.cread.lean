theorem u84_0 {d : Nat} {l1 : Int} {M : Mem} {K : KK} {Q : RR → Mem → KK → Prop} (hK : K.1 = 923) (hX : FX M)  (h : Q (.inl none) (mset (mset (mset (mset (mset (mset (mset M 33 2 (jmax (0 : Int) (jmin l1 (600 : Int)))) 33 1 (0 : Int)) 33 3 (0 : Int)) 33 4 (0 : Int)) 33 5 (0 : Int)) 33 6 (0 : Int)) 33 7 (-1 : Int)) K) : Wp d 84 0 [vR 33, vI l1] [] M K Q := by
  refine r_aload_n c84_0 rfl ?_
  refine r_iconst c84_1 ?_
  refine r_iload_n c84_2 rfl ?_
  refine r_aload_n c84_3 rfl ?_
  refine r_getR c84_4 (oK hK o33) (FX.get (b := 34) hX (by decide) (by decide +kernel) (by decide)) (by decide) ?_
  refine r_alene c84_7 (mal o34 rfl hK) l34 ?_
  refine r_min c84_8 (Nat.le_of_ble_eq_true rfl) ?_
  refine r_max c84_11 (Nat.le_of_ble_eq_true rfl) ?_
  refine r_putI c84_14 (oK hK o33) ?_
  have x1 := FX.set (v := (jmax (0 : Int) (jmin l1 (600 : Int)))) (a := 33) (k := 2) hX (by decide +kernel)
  refine r_aload_n c84_17 rfl ?_
  refine r_iconst c84_18 ?_
  refine r_putI c84_19 (oK hK o33) ?_
  have x2 := FX.set (v := (0 : Int)) (a := 33) (k := 1) x1 (by decide +kernel)
  refine r_aload_n c84_22 rfl ?_
  refine r_iconst c84_23 ?_
  refine r_putI c84_24 (oK hK o33) ?_
  have x3 := FX.set (v := (0 : Int)) (a := 33) (k := 3) x2 (by decide +kernel)
  refine r_aload_n c84_27 rfl ?_
  refine r_iconst c84_28 ?_
  refine r_putI c84_29 (oK hK o33) ?_
  have x4 := FX.set (v := (0 : Int)) (a := 33) (k := 4) x3 (by decide +kernel)
  refine r_aload_n c84_32 rfl ?_
  refine r_iconst c84_33 ?_
  refine r_putI c84_34 (oK hK o33) ?_
  have x5 := FX.set (v := (0 : Int)) (a := 33) (k := 5) x4 (by decide +kernel)
  refine r_aload_n c84_37 rfl ?_
  refine r_iconst c84_38 ?_
  refine r_putI c84_39 (oK hK o33) ?_
  have x6 := FX.set (v := (0 : Int)) (a := 33) (k := 6) x5 (by decide +kernel)
  refine r_aload_n c84_42 rfl ?_
  refine r_iconst c84_43 ?_
  refine r_putI c84_44 (oK hK o33) ?_
  have x7 := FX.set (v := (-1 : Int)) (a := 33) (k := 7) x6 (by decide +kernel)
  exact r_ret c84_47 h
theorem u100_0 {d : Nat} {l1 : Int} {M : Mem} {K : KK} {Q : RR → Mem → KK → Prop} (hK : K.1 = 923) (hX : FX M)  (h : (((0 ≤ l1 ∧ l1 ≤ (150 : Int)) ∧ l1 ≤ M 33 1) → Wm (d + 50) 84 [vR 33, vI l1] M K (Bk (d + 50) 100 17 20 84 [vR 32, vI l1, vU] [] Q)) ∧ (¬ ((0 ≤ l1 ∧ l1 ≤ (150 : Int)) ∧ l1 ≤ M 33 1) → Q (.inr 0) (mset M 32 19 (w32 ((M 32 19) + 1))) (K.1, K.2.1 + 1, K.2.2 + 6))) : Wp (d + 51) 100 0 [vR 32, vI l1, vU] [] M K Q := by
  refine r_aload_n c100_0 rfl ?_
  refine r_aload_n c100_1 rfl ?_
  refine r_iload_n c100_2 rfl ?_
  refine r_sipush c100_3 ?_
  refine r_call c100_6 rfl rfl (Nat.le_of_ble_eq_true rfl) (okc_r rfl rfl (oK hK o32)) (g140 hK hX  (Bk_v ?_))
  refine r_call c100_9 rfl rfl (Nat.le_of_ble_eq_true rfl) (okc_r rfl rfl (oK hK o32)) (n136b hK hX (fun hc => Bk_n ?_) (fun hc => Bk_e rfl rfl rfl ?_))
  · replace h := h.1 hc
    refine r_aload_n c100_12 rfl ?_
    refine r_getR c100_13 (oK hK o32) (FX.get (b := 33) hX (by decide) (by decide +kernel) (by decide)) (by decide) ?_
    refine r_iload_n c100_16 rfl ?_
    exact r_call c100_17 rfl rfl (Nat.le_of_ble_eq_true rfl) (okc_r rfl rfl (oK hK o33)) h
  · replace h := h.2 hc
    exact h
theorem u100_20 {d : Nat} {l1 : Int} {M : Mem} {K : KK} {Q : RR → Mem → KK → Prop} (hK : K.1 = 923) (hX : FX M)  (h : ∃ b1 : Nat, (M 32 13) = (b1 : Int) ∧ isO 923 b1 2 = true ∧ ∃ B4 : BY, ∃ n5 : Nat, (n5 ≤ 150 ∧ (∀ i, i < n5 → B4 i ≠ -1) ∧ TR B4 n5 M (.inl (sk B4 n5 0))) ∧ (∀ (M9 : Mem), FX M9 → (FrL b1 M M9 ∧ TR B4 n5 M9 (pLaw B4 n5).1 ∧ CRo M9 b1 (oo (pLaw B4 n5))) → (¬ (¬ M9 33 6 = 0) → ∃ b12 : Nat, (M9 32 13) = (b12 : Int) ∧ isO 923 b12 2 = true ∧ ∃ b15 : Nat, (M9 32 11) = (b15 : Int) ∧ isO 923 b15 0 = true ∧ ∃ b18 : Nat, (M9 b15 11) = (b18 : Int) ∧ isO 923 b18 2 = true ∧ Q (.inl (some (vI (1 : Int)))) (mset (mset M9 32 13 ((b18 : Nat) : Int)) b15 11 ((b12 : Nat) : Int)) K) ∧ ((¬ M9 33 6 = 0) → Q (.inl (some (vI (w32 (M9 33 6 - 10))))) M9 K))) : Wp (d + 51) 100 20 [vR 32, vI l1, vU] [] M K Q := by
  refine r_aload_n c100_20 rfl ?_
  obtain ⟨b1, h⟩ := h
  obtain ⟨e2, h⟩ := h
  obtain ⟨k3, h⟩ := h
  refine r_getR c100_21 (oK hK o32) e2 (by have := (isO_d k3).1; omega) ?_
  refine r_aload_n c100_24 rfl ?_
  refine r_getR c100_25 (oK hK o32) (FX.get (b := 33) hX (by decide) (by decide +kernel) (by decide)) (by decide) ?_
  obtain ⟨B4, h⟩ := h
  obtain ⟨n5, h⟩ := h
  obtain ⟨p6, h⟩ := h
  refine r_call c100_28 rfl rfl (Nat.le_of_ble_eq_true rfl) (okc_r rfl rfl (oK hK k3)) (g19 hK hX k3 p6 (fun M9 x7 p8 => Bk_n ?_))
  replace h := h M9 x7 p8
  refine r_aload_n c100_31 rfl ?_
  refine r_getR c100_32 (oK hK o32) (FX.get (b := 33) x7 (by decide) (by decide +kernel) (by decide)) (by decide) ?_
  refine r_call c100_35 rfl rfl (Nat.le_of_ble_eq_true rfl) (okc_r rfl rfl (oK hK o33)) (g85 hK x7  (Bk_v ?_))
  refine r_ifP (P := ¬ (¬ M9 33 6 = 0)) c100_38 bI_eq (fun hc10 => ?_) (fun hc10 => ?_)
  · replace h := h.1 hc10
    refine r_aload_n c100_49 rfl ?_
    obtain ⟨b12, h⟩ := h
    obtain ⟨e13, h⟩ := h
    obtain ⟨k14, h⟩ := h
    refine r_getR c100_50 (oK hK o32) e13 (by have := (isO_d k14).1; omega) ?_
    refine r_astore_n c100_53 (Nat.le_of_ble_eq_true rfl) ?_
    refine r_aload_n c100_54 rfl ?_
    refine r_aload_n c100_55 rfl ?_
    obtain ⟨b15, h⟩ := h
    obtain ⟨e16, h⟩ := h
    obtain ⟨k17, h⟩ := h
    refine r_getR c100_56 (oK hK o32) e16 (by have := (isO_d k17).1; omega) ?_
    obtain ⟨b18, h⟩ := h
    obtain ⟨e19, h⟩ := h
    obtain ⟨k20, h⟩ := h
    refine r_getR c100_59 (oK hK k17) e19 (by have := (isO_d k20).1; omega) ?_
    refine r_putR c100_62 (oK hK o32) (by have := (isO_d k20).1; omega) ?_
    have x21 := FX.set (v := ((b18 : Nat) : Int)) (a := 32) (k := 13) x7 (by decide +kernel)
    refine r_aload_n c100_65 rfl ?_
    refine r_getR c100_66 (oK hK o32) (Eq.trans (ms_nk (by decide)) e16) (by have := (isO_d k17).1; omega) ?_
    refine r_aload_n c100_69 rfl ?_
    refine r_putR c100_70 (oK hK k17) (by have := (isO_d k14).1; omega) ?_
    have x22 := FX.set (v := ((b12 : Nat) : Int)) (a := b15) (k := 11) x21 (nf0 k17 (by decide))
    refine r_iconst c100_73 ?_
    exact r_iret c100_74 (Or.inl rfl) h
  · have hc11 := Classical.not_not.mp hc10
    replace h := h.2 hc11
    refine r_aload_n c100_41 rfl ?_
    refine r_getR c100_42 (oK hK o32) (FX.get (b := 33) x7 (by decide) (by decide +kernel) (by decide)) (by decide) ?_
    refine r_call c100_45 rfl rfl (Nat.le_of_ble_eq_true rfl) (okc_r rfl rfl (oK hK o33)) (g86 hK x7  (Bk_v ?_))
    exact r_iret c100_48 (Or.inl rfl) h
/-! texts read: the class -/
/-- what a reading answers, and the place of its fault -/
def rdR (st : ST) (ok : Int) : Int := match st with
  | .inl _ => ok
  | .inr f => w32 (f.1 - 10)
def fpR (st : ST) : Int := match st with
  | .inl _ => -1
  | .inr f => f.2
section CRD
variable {d : Nat} {M M' : Mem} {K : KK} {Q : RR → Mem → KK → Prop} {nB : Nat} {B : BY} {fp : Int} {c : Mem} {L : LC} {s : Mem} {H : List Mem} {I : List IMG} {Y : LC} {rf ms wr : Int}
/-- only the tape has changed, or other objects than those of the game -/
def Op33 (M M' : Mem) : Prop := ∀ a j, ¬ (a = 33 ∧ 1 ≤ j ∧ j ≤ 7) → M' a j = M a j
theorem g84 {n : Nat} (hK : K.1 = 923) (hX : FX M) (hn : n ≤ 600) (hB : ∀ i, i < n → M 34 i = B i) (k : ∀ M', FX M' → Op33 M M' → TR B n M' (.inl (sk B n 0)) → M' 33 1 = 0 → Q (.inl none) M' K) : Wm d 84 [vR 33, vI (n : Int)] M K Q := by
  refine u84_0 hK hX ?_
  have e : jmax 0 (jmin (n : Int) 600) = (n : Int) := by rw [jmin_eq, jmax_eq]; omega
  rw [e]
  have nf : ∀ k, 1 ≤ k → k ≤ 7 → fxT 33 k = 0 := by
    intro k h1 h2
    rcases (show k = 1 ∨ k = 2 ∨ k = 3 ∨ k = 4 ∨ k = 5 ∨ k = 6 ∨ k = 7 by omega) with rfl | rfl | rfl | rfl | rfl | rfl | rfl <;> decide +kernel
  refine k _ (((((((hX.set (nf 2 (by decide) (by decide))).set (nf 1 (by decide) (by decide))).set (nf 3 (by decide) (by decide))).set (nf 4 (by decide) (by decide))).set (nf 5 (by decide) (by decide))).set (nf 6 (by decide) (by decide))).set (nf 7 (by decide) (by decide))) (fun a j h => ?_) ⟨?_, hn, fun i hi => ?_, 0, ?_, by omega, ⟨?_, ms_eq⟩, rfl⟩ ?_
  · simp only [mset]
    rw [if_neg (by omega), if_neg (by omega), if_neg (by omega), if_neg (by omega), if_neg (by omega), if_neg (by omega), if_neg (by omega)]
  · rw [ms_nk (by decide), ms_nk (by decide), ms_nk (by decide), ms_nk (by decide), ms_nk (by decide), ms_nk (by decide), ms_eq]
  · rw [ms_na (by decide), ms_na (by decide), ms_na (by decide), ms_na (by decide), ms_na (by decide), ms_na (by decide), ms_na (by decide)]; exact hB i hi
  · rw [ms_nk (by decide), ms_nk (by decide), ms_nk (by decide), ms_nk (by decide), ms_eq]; rfl
  · rw [ms_nk (by decide), ms_eq]
  · rw [ms_nk (by decide), ms_nk (by decide), ms_nk (by decide), ms_nk (by decide), ms_nk (by decide), ms_eq]
theorem TR.p7 {n : Nat} {p : Nat} (h : TR B n M (.inl p)) : M 33 6 = 0 ∧ M 33 7 = -1 := by
  obtain ⟨-, -, -, a, -, -, h6, -⟩ := h; exact h6
theorem TR.f7 {n : Nat} {f : Int × Int} (h : TR B n M (.inr f)) : M 33 6 = f.1 ∧ M 33 7 = f.2 ∧ f.1 ≠ 0 := by
  obtain ⟨-, -, -, a, -, -, h6⟩ := h; exact h6
theorem TR.pl7 {n : Nat} {st : ST} (h : TR B n M st) : M 33 7 = fpR st := by
  cases st with
  | inl p => exact h.p7.2
  | inr f => exact h.f7.2.1
theorem TpC.rd {n : Nat} {st : ST} (h : TR B n M st) (h1 : M 33 1 = 0) : TpC M 0 B (fpR st) := ⟨h1, fun i hi => absurd hi (by omega), h.pl7⟩
theorem Op33.o (hf : Op33 M M') {a j : Nat} (h : a ≠ 33) : M' a j = M a j := hf a j (fun h9 => h h9.1)
/-- a frame by names: only those in S have changed -/
def FrB9 (S : Nat → Nat → Prop) (M M' : Mem) : Prop := ∀ a k, ¬ S a k → M' a k = M a k
theorem GmC.eq {S : Nat → Nat → Prop} (hf : FrB9 S M M') (h : GmC M c L s) (hS : ∀ cm l cm2 l2 l3 : Nat, M 32 11 = (cm : Int) → isO 923 cm 0 = true → M cm 11 = (l : Int) → isO 923 l 2 = true → M 32 12 = (cm2 : Int) → isO 923 cm2 0 = true → cm2 ≠ cm → M cm2 11 = (l2 : Int) → isO 923 l2 2 = true → M 32 13 = (l3 : Int) → isO 923 l3 2 = true → l2 ≠ l → l3 ≠ l → l3 ≠ l2 → (∀ k, 11 ≤ k → k ≤ 13 → ¬ S 32 k) ∧ (∀ a k, cm ≤ a → a ≤ cm + 5 → ¬ S a k) ∧ (∀ k, ¬ S l k) ∧ (∀ k, ¬ S (l + 2) k) ∧ ¬ S cm2 11 ∧ (∀ a k, 40 ≤ a → a ≤ 44 → ¬ S a k)) : GmC M' c L s := by
  obtain ⟨cm, l, cm2, l2, l3, ⟨a, b, e, f⟩, ⟨a2, b2, n2, e2, o2⟩, ⟨a3, o3⟩, d1, d2, d3⟩ := h
  obtain ⟨q1, q2, q3, q4, q5, q6⟩ := hS cm l cm2 l2 l3 a b f.1 f.2.1 a2 b2 n2 e2 o2 a3 o3 d1 d2 d3
  exact ⟨cm, l, cm2, l2, l3, ⟨(hf _ _ (q1 _ (by omega) (by omega))).trans a, b, ⟨e.1.eq (fun b k h1 h2 => hf _ _ (q2 _ _ h1 h2)), e.2.1, e.2.2.1.fr (fun b j h1 h2 => hf _ _ (q6 _ _ h1 h2)), e.2.2.2⟩, f.eq (fun k => hf _ _ (q2 _ _ (by omega) (by omega))) (fun k => hf _ _ (q3 k)) (fun k => hf _ _ (q4 k))⟩, ⟨(hf _ _ (q1 _ (by omega) (by omega))).trans a2, b2, n2, (hf _ _ q5).trans e2, o2⟩, ⟨(hf _ _ (q1 _ (by omega) (by omega))).trans a3, o3⟩, d1, d2, d3⟩
theorem SyC.eq {S : Nat → Nat → Prop} (hf : FrB9 S M M') (h : SyC M Y) (hS : ∀ y y2 : Nat, M 32 14 = (y : Int) → isO 923 y 8 = true → M 32 15 = (y2 : Int) → isO 923 y2 8 = true → y2 ≠ y → ¬ S 32 14 ∧ ¬ S 32 15 ∧ ∀ k, ¬ S y k) : SyC M' Y := by
  obtain ⟨y, y2, ⟨a, b, e⟩, a2, b2, n2⟩ := h
  obtain ⟨q1, q2, q3⟩ := hS y y2 a b a2 b2 n2
  exact ⟨y, y2, ⟨(hf _ _ q1).trans a, b, e.eq (fun k => hf _ _ (q3 k))⟩, (hf _ _ q2).trans a2, b2, n2⟩
/-- the rest of the state where nothing of it has changed -/
theorem CS.mk {nB' : Nat} {B' : BY} {fp' : Int} {L' : LC} {Y' : LC} {S : Nat → Nat → Prop} (h : CS M nB B fp c L s H I Y rf ms wr) (h3 : I.length ≤ 3) (hf : FrB9 S M M') (hS : (∀ k, 16 ≤ k → k ≤ 19 → ¬ S 32 k) ∧ (∀ a k, 50 ≤ a → a ≤ 131 → ¬ S a k) ∧ (∀ a k, 179 ≤ a → a ≤ 439 → ¬ S a k) ∧ ∀ k, ¬ S 144 k) (ht : TpC M' nB' B' fp') (hg : GmC M' c L' s) (hy : SyC M' Y') : CS M' nB' B' fp' c L' s H I Y' rf ms wr := by
  obtain ⟨a, b, e, f, g, ⟨r1, r2, r3⟩, o⟩ := h
  obtain ⟨q1, q2, q3, q4⟩ := hS
  exact ⟨ht, hg, hy, f.fr (fun b j h1 h2 => hf _ _ (q2 _ _ h1 h2)), ⟨(hf _ _ (q1 _ (by omega) (by omega))).trans g.1, fun i hi => ⟨(g.2 i hi).1.fr (fun b j h1 h2 => hf _ _ (q3 _ _ (by omega) (by omega))), (g.2 i hi).2.fr (fun b j h1 h2 => hf _ _ (q3 _ _ (by omega) (by omega)))⟩⟩, ⟨(hf _ _ (q1 _ (by omega) (by omega))).trans r1, (hf _ _ (q1 _ (by omega) (by omega))).trans r2, (hf _ _ (q1 _ (by omega) (by omega))).trans r3⟩, o.of (hf _ _ (q4 _)) (hf _ _ (q4 _))⟩
abbrev txOK (nB : Nat) (v hi : Int) : Prop := 0 ≤ v ∧ v ≤ hi ∧ v ≤ (nB : Int)
def lawL (B : BY) (n : Nat) (L : LC) : LC := match (pLaw B n).1 with
  | .inl _ => (pLaw B n).2
  | .inr _ => L
theorem c100 {v : Int} (hK : K.1 = 923) (hX : FX M) (hI : IV nB B c s H I Y) (h : CS M nB B fp c L s H I Y rf ms wr) (kb : ¬ txOK nB v 150 → Q (.inr 0) (inc M 19) (K9 K)) (k : txOK nB v 150 → ∀ M', FX M' → HiC M M' → CS M' 0 B (fpR (pLaw B v.toNat).1) c (lawL B v.toNat L) s H I Y rf ms wr → Q (.inl (some (vI (rdR (pLaw B v.toNat).1 1)))) M' K) : Wm (d + 51) 100 [vR 32, vI v] M K Q := by
  have h33 := h.1.1
  refine u100_0 hK hX ⟨fun hv => ?_, fun hv => kb (fun h9 => hv ⟨⟨h9.1, h9.2.1⟩, by rw [h33]; exact h9.2.2⟩)⟩
  rw [h33] at hv
  have kk := k ⟨hv.1.1, hv.1.2, hv.2⟩
  obtain ⟨n, rfl⟩ : ∃ n : Nat, v = (n : Int) := ⟨v.toNat, by omega⟩
  rw [Int.toNat_natCast] at kk
  refine g84 hK hX (by omega) (fun i hi => h.1.2.1 i (by omega)) (fun M1 x1 f1 t1 z1 => Bk_n ?_)
  have hG := h.2.1
  obtain ⟨cm, l, cm2, l2, l3, ⟨a, b, e, f⟩, ⟨a2, b2, n2, e2, o2⟩, ⟨a3, o3⟩, d1, d2, d3⟩ := hG
  have g := rg0 b
  have g2 := rg0 b2
  have gl := rg2 f.2.1
  have gl2 := rg2 o2
  have gl3 := rg2 o3
  refine u100_20 hK x1 ⟨l3, (f1.o (by decide)).trans a3, o3, B, n, ⟨by omega, fun i hi => by have := hI.2.1 i (by omega); omega, t1⟩, fun M9 x9 ⟨f9, t9, c9⟩ => ?_⟩
  have fr : FrB9 (fun a k => a = 33 ∨ a = l3 + 2 ∨ (a = l3 ∧ k = 3)) M M9 := fun a k h9 => by
    rw [f9 a k (by omega) (by omega) (by omega)]; exact f1 a k (by omega)
  have sy9 : SyC M9 Y := h.2.2.1.eq fr (fun y y2 p1 p2 p3 p4 p5 => by have := rg8 p2; exact ⟨by omega, by omega, fun k => by omega⟩)
  have z9 : M9 33 1 = 0 := (f9 33 1 (by omega) (by omega) (by omega)).trans z1
  unfold rdR fpR lawL at kk
  cases hp : (pLaw B n).1 with
  | inr f0 =>
    rw [hp] at kk t9
    have t := t9.f7
    refine ⟨fun h9 => absurd t.1 (by intro h8; exact h9 (by rw [h8]; exact t.2.2)), fun _ => ?_⟩
    rw [t.1]
    refine kk M9 x9 (fun a j h9 => fr a j (by omega)) (h.mk hI.2.2.2.2.1.1 fr ⟨fun k h1 h2 => by omega, fun a k h1 h2 => by omega, fun a k h1 h2 => by omega, fun k => by omega⟩ (TpC.rd t9 z9) (h.2.1.eq fr (fun cm' l' cm2' l2' l3' p1 p2 p3 p4 p5 p6 p7 p8 p9 p10 p11 p12 p13 p14 => ?_)) sy9)
    have q1 : cm' = cm := by have := p1.symm.trans a; omega
    subst q1
    have q2 : l' = l := by have := p3.symm.trans f.1; omega
    have q3 : cm2' = cm2 := by have := p5.symm.trans a2; omega
    subst q2 q3
    exact ⟨fun k h1 h2 => by omega, fun a k h1 h2 => by omega, fun k => by omega, fun k => by omega, by omega, fun a k h1 h2 => by omega⟩
  | inl p0 =>
    rw [hp] at kk t9
    have t := t9.p7
    have hoo : oo (pLaw B n) = some (pLaw B n).2 := by unfold oo; rw [hp]
    rw [hoo] at c9
    have hV := pLaw_ok hp
    have hne : (pLaw B n).2 ≠ [] := fun h9 => by rw [h9] at hV; simp [Vd] at hV
    refine ⟨fun _ => ⟨l3, (fr _ _ (by omega)).trans a3, o3, cm, (fr _ _ (by omega)).trans a, b, l, (fr _ _ (by omega)).trans f.1, f.2.1, ?_⟩, fun h9 => absurd t.1 h9⟩
    have fs : FrB9 (fun a k => a = 33 ∨ a = l3 + 2 ∨ (a = l3 ∧ k = 3) ∨ (a = 32 ∧ k = 13) ∨ (a = cm ∧ k = 11)) M (mset (mset M9 32 13 ((l : Nat) : Int)) cm 11 ((l3 : Nat) : Int)) := fun a k h9 => by
      unfold mset; rw [if_neg (by omega), if_neg (by omega)]; exact fr a k (by omega)
    have nfc : fxT cm 11 = 0 := by rcases g with rfl | rfl <;> decide +kernel
    refine kk _ ((x9.set (by decide +kernel)).set nfc) (fun a j h9 => fs a j (by omega)) (h.mk hI.2.2.2.2.1.1 fs ⟨fun k h1 h2 => by omega, fun a k h1 h2 => by omega, fun a k h1 h2 => by omega, fun k => by omega⟩ ⟨?_, fun i hi => absurd hi (by omega), ?_⟩ ⟨cm, l3, cm2, l2, l, ⟨(fs _ _ (by omega)).trans a, b, ⟨⟨fun k hk => (fs _ _ (by omega)).trans (e.1.1 k hk), fun b' h1 h2 i hi => (fs _ _ (by omega)).trans (e.1.2 b' h1 h2 i hi)⟩, e.2.1, e.2.2.1.fr (fun b' j h1 h2 => fs _ _ (by omega)), e.2.2.2⟩, ms_eq, o3, ?_, ?_⟩, ⟨(fs _ _ (by omega)).trans a2, b2, n2, (fs _ _ (by omega)).trans e2, o2⟩, ⟨?_, f.2.1⟩, fun h9 => d3 h9.symm, fun h9 => d2 h9.symm, fun h9 => d1 h9.symm⟩ (h.2.2.1.eq fs (fun y y2 p1 p2 p3 p4 p5 => by have := rg8 p2; exact ⟨by omega, by omega, fun k => by omega⟩)))
    · rw [ms_na (by omega), ms_na (by decide)]; exact z9
    · rw [ms_na (by omega), ms_na (by decide)]; exact t.2
    · have he : eff (pLaw B n).2 = (pLaw B n).2 := by unfold eff; rw [if_neg hne]
      rw [he]
      obtain ⟨r1, r2, r3⟩ := c9
      exact ⟨by rw [ms_na (by omega), ms_na (by omega)]; exact r1, r2, fun i hi => by rw [ms_na (by omega), ms_na (by omega)]; exact r3 i hi⟩
    · have he : eff (pLaw B n).2 = (pLaw B n).2 := by unfold eff; rw [if_neg hne]
      rw [he]; exact hV
    · rw [ms_na (by omega), ms_eq]
end CRD
