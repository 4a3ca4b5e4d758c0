theorem u151_0 {d : Nat}  {M : Mem} {K : KK} {Q : RR → Mem → KK → Prop} (hK : K.1 = 923) (hX : FX M)  (h : Q (.inl (some (vI (M 440 0)))) M K) : Wp d 151 0 [vR 440] [] M K Q := by
  refine r_aload_n c151_0 rfl ?_
  refine r_getIe c151_1 (oK hK o440) rfl ?_
  exact r_iret c151_4 (Or.inl rfl) h
/-! the loop: what holds at its head -/
theorem o_all : isO 923 32 11 = true ∧ isO 923 440 12 = true ∧ isO 923 922 22 = true ∧ ln 922 = 1 := by decide +kernel
theorem o_ln : (0 : Int) ≤ 0 ∧ (0 : Int) < (ln 922 : Int) := by rw [o_all.2.2.2]; decide
/-- class and model hold the same state -/
def RZ (M : Mem) : Prop := ∃ (nB : Nat) (B : BY) (fp : Int) (c : Mem) (L : LC) (s : Mem) (H : List Mem) (I : List IMG) (Y : LC) (rf ms wr : Int), IV nB B c s H I Y ∧ CS M nB B fp c L s H I Y rf ms wr ∧ MS M nB B fp c L s H I Y rf ms wr
def InR (M : Mem) (i : Nat) : Prop := (i : Int) + 9 ≤ M 30 0 ∧ M 30 0 ≤ 4608
/-- the script is as before -/
def ScR (M M' : Mem) : Prop := ∀ a k, a < 32 → M' a k = M a k
def Nx (d : Nat) (Q : RR → Mem → KK → Prop) (M : Mem) (K : KK) (i : Nat) : Prop := ∀ (M' : Mem) (K' : KK) (l5 l6 : PV), FX M' → RZ M' → ScR M M' → K'.1 = 923 → K'.2.1 ≤ K.2.1 + 1 → K'.2.2 ≤ K.2.2 + 6 → Wp (d + 101) 288 2445 [vR 31, vR 32, vR 440, vR 922, vI (i : Int), l5, l6, vU] [] M' K' Q
section LP
variable {d i : Nat} {M M' M1 M2 M3 : Mem} {K : KK} {Q : RR → Mem → KK → Prop} {nB : Nat} {B : BY} {fp : Int} {c : Mem} {L : LC} {s : Mem} {H : List Mem} {I : List IMG} {Y : LC} {rf ms wr : Int}
theorem InR.r (h : InR M i) (j : Int) (hj : 0 ≤ j ∧ j ≤ 8) : 0 ≤ w32 ((i : Int) + j) ∧ w32 ((i : Int) + j) < M 30 0 := by
  obtain ⟨h1, h2⟩ := h
  rw [w32_id (by omega)]; omega
theorem InR.fr (h : InR M i) (f : ScR M M') : InR M' i := by
  unfold InR; rw [f 30 0 (by omega)]; exact h
theorem inc_sc {j : Nat} : ScR M (inc M j) := fun a k h => ms_na (by omega)
theorem out_sc {v : Int} (f : HiC M M1) : ScR M (mset M1 922 0 v) := fun a k h => (ms_na (by omega)).trans (f a k (Or.inl h))
theorem LoM.sc (f : LoM M M') : ScR M M' := fun a k h => f a k (Or.inl (by omega))
theorem HiC.sc (f : HiC M M') : ScR M M' := fun a k h => f a k (Or.inl h)
theorem ScR.tr (f : ScR M M1) (g : ScR M1 M2) : ScR M M2 := fun a k h => (g a k h).trans (f a k h)
theorem jcmp_s {v : Int} : jcmp v v = 0 := by unfold jcmp; rw [if_neg (by omega), if_pos rfl]
theorem FX.out {v : Int} (x : FX M) : FX (mset M 922 0 v) := x.set (by decide +kernel)
theorem FX.i18 (x : FX M) : FX (inc M 18) := x.set (by decide +kernel)
theorem FX.i19 (x : FX M) : FX (inc M 19) := x.set (by decide +kernel)
theorem CS.out {v : Int} (hI : IV nB B c s H I Y) (h : CS M nB B fp c L s H I Y rf ms wr) : CS (mset M 922 0 v) nB B fp c L s H I Y rf ms wr :=
  h.kp (fun b k h1 h2 _ => ms_na (by omega)) (fun h9 => h9.of (ms_na (by decide)) (ms_na (by decide))) hI.2.2.2.2.1.1
theorem MS.out {v : Int} (hI : IV nB B c s H I Y) (h : MS M nB B fp c L s H I Y rf ms wr) : MS (mset M 922 0 v) nB B fp c L s H I Y rf ms wr :=
  h.kp (fun a k h1 h2 _ => ms_na (by omega)) hI
/-- no such thing: both sides count it -/
theorem RZ.n {cd : Nat} (hI : IV nB B c s H I Y) (hc : CS M nB B fp c L s H I Y rf ms wr) (hm : MS M nB B fp c L s H I Y rf ms wr) (b : BadM cd 0 (inc M 18) M3) : RZ M3 ∧ ScR M M3 :=
  ⟨⟨nB, B, fp, c, L, s, H, I, Y, rf, w32 (ms + 1), wr, hI, (hc.incM hI.2.2.2.2.1.1).lo b.lo hI.2.2.2.2.1.1, (hm.hi inc_hi hI).mis hI b⟩, inc_sc.tr b.lo.sc⟩
/-- a call refused: both sides count it -/
theorem RZ.b {cd : Nat} (hI : IV nB B c s H I Y) (hc : CS M nB B fp c L s H I Y rf ms wr) (hm : MS M nB B fp c L s H I Y rf ms wr) (b : BadM cd 1 (inc M 19) M3) : RZ M3 ∧ ScR M M3 :=
  ⟨⟨nB, B, fp, c, L, s, H, I, Y, rf, ms, w32 (wr + 1), hI, (hc.incW hI.2.2.2.2.1.1).lo b.lo hI.2.2.2.2.1.1, (hm.hi inc_hi hI).bad hI b⟩, inc_sc.tr b.lo.sc⟩
/-- an answer, and nothing has changed -/
theorem RZ.k {v : Int} (hI : IV nB B c s H I Y) (hc : CS M nB B fp c L s H I Y rf ms wr) (hm : MS M nB B fp c L s H I Y rf ms wr) (f1 : FrQc M M1) (f3 : FrQm (mset M1 922 0 v) M3) : RZ M3 ∧ ScR M M3 :=
  ⟨⟨nB, B, fp, c, L, s, H, I, Y, rf, ms, wr, hI, ((hc.qc f1 hI.2.2.2.2.1.1).out hI).lo f3.lo hI.2.2.2.2.1.1, ((hm.hi f1.hi hI).out hI).q f3 hI⟩, (out_sc f1.hi).tr f3.lo.sc⟩
theorem RZ.k0 (hI : IV nB B c s H I Y) (hc : CS M nB B fp c L s H I Y rf ms wr) (hm : MS M nB B fp c L s H I Y rf ms wr) (f1 : FrQc M M1) (f3 : FrQm M1 M3) : RZ M3 ∧ ScR M M3 :=
  ⟨⟨nB, B, fp, c, L, s, H, I, Y, rf, ms, wr, hI, (hc.qc f1 hI.2.2.2.2.1.1).lo f3.lo hI.2.2.2.2.1.1, (hm.hi f1.hi hI).q f3 hI⟩, f1.hi.sc.tr f3.lo.sc⟩
theorem Nx.t (nx : Nx d Q M K i) (hK : K.1 = 923) (x3 : FX M3) (r : RZ M3 ∧ ScR M M3) (l5 l6 : PV) : Wp (d + 101) 288 2445 [vR 31, vR 32, vR 440, vR 922, vI (i : Int), l5, l6, vU] [] M3 (K9 K) Q :=
  nx M3 (K9 K) l5 l6 x3 r.1 r.2 hK (Nat.le_refl _) (Nat.le_refl _)
theorem Nx.k (nx : Nx d Q M K i) (hK : K.1 = 923) (x3 : FX M3) (r : RZ M3 ∧ ScR M M3) (l5 l6 : PV) : Wp (d + 101) 288 2445 [vR 31, vR 32, vR 440, vR 922, vI (i : Int), l5, l6, vU] [] M3 K Q :=
  nx M3 K l5 l6 x3 r.1 r.2 hK (Nat.le_succ _) (by omega)
end LP
