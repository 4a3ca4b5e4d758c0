/-! texts read: the class; work -/
section CWK
variable {d : Nat} {M M' : Mem} {K : KK} {Q : RR → Mem → KK → Prop} {nB : Nat} {B : BY} {fp : Int} {c : Mem} {L : LC} {s : Mem} {H : List Mem} {I : List IMG} {Y : LC} {rf ms wr : Int}
/-- the text as a work -/
abbrev wkP (B : BY) (n : Nat) (c : Mem) : XP := pPrg B n (c 0 0) (c 0 1)
theorem CS.rdw {nB' : Nat} {B' : BY} {fp' : Int} (hI : IV nB B c s H I Y) (h : CS M nB B fp c L s H I Y rf ms wr) (hf : FrB9 (fun a _ => 33 ≤ a ∧ a ≤ 39) M M') (ht : TpC M' nB' B' fp') : CS M' nB' B' fp' c L s H I Y rf ms wr := by
  refine h.mk hI.2.2.2.2.1.1 hf ⟨fun k h1 h2 => by omega, fun a k h1 h2 => by omega, fun a k h1 h2 => by omega, fun k => by omega⟩ ht (h.2.1.eq hf (fun cm' l' cm2' l2' l3' p1 p2 p3 p4 p5 p6 p7 p8 p9 p10 p11 p12 p13 p14 => ?_)) (h.2.2.1.eq hf (fun y' y2' p1 p2 p3 p4 p5 => ?_))
  · have q1 := rg0 p2
    have q2 := rg2 p4
    have q3 := rg0 p6
    exact ⟨fun k h1 h2 => by omega, fun a k h1 h2 => by omega, fun k => by omega, fun k => by omega, by omega, fun a k h1 h2 => by omega⟩
  · have q1 := rg8 p2
    have q2 := rg8 p4
    exact ⟨by omega, by omega, fun k => by omega⟩
theorem c101 {v : Int} (hK : K.1 = 923) (hX : FX M) (hI : IV nB B c s H I Y) (h : CS M nB B fp c L s H I Y rf ms wr) (kb : ¬ txOK nB v 150 → Q (.inr 0) (inc M 19) (K9 K)) (k0 : txOK nB v 150 → ¬ H.length < 16 → ∀ M', FX M' → HiC M M' → CS M' 0 B (-1) c L s H I Y rf ms wr → Q (.inl (some (vI (-20)))) M' K) (k1 : txOK nB v 150 → H.length < 16 → ∀ p, (wkP B v.toNat c).1 = .inl p → LW c (runP c L (wkP B v.toNat c).2 s).1 → ∀ M', FX M' → HiC M M' → CS M' 0 B (-1) c L (runP c L (wkP B v.toNat c).2 s).1 (H ++ [s]) I Y ((runP c L (wkP B v.toNat c).2 s).2.2.2 : Int) ms wr → Q (.inl (some (vI ((runP c L (wkP B v.toNat c).2 s).2.2.1 : Int)))) M' K) (k2 : txOK nB v 150 → H.length < 16 → ∀ f, (wkP B v.toNat c).1 = .inr f → ∀ M', FX M' → HiC M M' → CS M' 0 B f.2 c L s H I Y rf ms wr → Q (.inl (some (vI (w32 (f.1 - 10))))) M' K) : Wm (d + 81) 101 [vR 32, vI v] M K Q := by
  have h33 := h.1.1
  have h50 := h.2.2.2.1.1
  refine u101_0 hK hX ⟨fun hv => ⟨fun hlt => ?_, fun hge => ?_⟩, fun hv => kb (fun h9 => hv ⟨⟨h9.1, h9.2.1⟩, by rw [h33]; exact h9.2.2⟩)⟩
  · rw [h33] at hv
    rw [h50] at hlt
    have kk1 := k1 ⟨hv.1.1, hv.1.2, hv.2⟩ (by omega)
    have kk2 := k2 ⟨hv.1.1, hv.1.2, hv.2⟩ (by omega)
    obtain ⟨n, rfl⟩ : ∃ n : Nat, v = (n : Int) := ⟨v.toNat, by omega⟩
    rw [Int.toNat_natCast] at kk1 kk2
    have h600 := hI.1
    have hn : n ≤ 150 := by omega
    refine g84 hK hX (by omega) (fun i hi => h.1.2.1 i (by omega)) (fun M1 x1 f1 t1 z1 => Bk_n ?_)
    have h1 := CS.rdw (M' := M1) hI h (fun a k h9 => f1 a k (by omega)) (TpC.rd t1 z1)
    obtain ⟨cm, l, cm2, l2, l3, ⟨a, b, e, f⟩, -⟩ := h1.2.1
    have hn0 := e.2.1.n
    have h8 := e.2.1.1
    have g := rg0 b
    refine u101_43 hK x1 ⟨cm, a, b, B, n, c 0 0, c 0 1, ⟨hn, t1, e.1.1 0 (by decide), e.1.1 1 (by decide), by omega, by omega⟩, fun M2 x2 ⟨f2, t2, p2⟩ => ?_⟩
    have z2 : M2 33 1 = 0 := (f2 33 1 (by omega) (by omega) (by omega)).trans z1
    have h2 := CS.rdw (M' := M2) hI h (fun a k h9 => by rw [f2 a k (by omega) (by omega) (by omega)]; exact f1 a k (by omega)) (TpC.rd t2 z2)
    have hi2 : HiC M M2 := fun a k h9 => by rw [f2 a k (by omega) (by omega) (by omega)]; exact f1 a k (by omega)
    cases hp : (pPrg B n (c 0 0) (c 0 1)).1 with
    | inr f0 =>
      rw [hp] at t2 h2
      have t := t2.f7
      refine ⟨fun h9 => absurd (Classical.not_not.mp h9) (by rw [t.1]; exact t.2.2), fun _ => ?_⟩
      rw [t.1]
      exact kk2 f0 hp M2 x2 hi2 h2
    | inl p0 =>
      rw [hp] at t2 h2
      have t := t2.p7
      refine ⟨fun _ => ⟨c, s, H, ⟨h2.2.2.2.1, h2.lk.1, h2.lk.2.1, Or.inl (by omega)⟩, fun M3 x3 ⟨f3, p3⟩ => ?_⟩, fun h9 => absurd t.1 h9⟩
      obtain ⟨cm, l, cm2, l2, l3, ⟨a, b, e, f⟩, -⟩ := h2.2.1
      have g := rg0 b
      have gl := rg2 f.2.1
      rw [if_pos (show H.length < 16 by omega)] at p3
      have vp := VP_c e.2.1 (pPrg_ok hp)
      have p51 := pPrg_51 (nC := c 0 0) (nS := c 0 1) hn (sk_w (B := B) (n := n) (Nat.zero_le _))
      refine ⟨cm, (f3 _ _ (by unfold scL; omega) (by omega)).trans a, b, c, s, L, (pPrg B n (c 0 0) (c 0 1)).2, l, ⟨⟨e.1.eq (fun b k h1 h2 => f3 _ _ (by unfold scL; omega) (by omega)), e.2.1, e.2.2.1.fr (fun b j h1 h2 => f3 _ _ (by unfold scL; omega) (by omega)), e.2.2.2⟩, f.eq (fun k => f3 _ _ (by unfold scL; omega) (by omega)) (fun k => f3 _ _ (by unfold scL; omega) (by omega)) (fun k => f3 _ _ (by unfold scL; omega) (by omega)), ⟨(f3 _ _ (by unfold scL; omega) (by omega)).trans p2.1, fun i hi => ?_⟩, vp.1, p51⟩, fun M4 x4 ⟨f4, w4⟩ => ?_⟩
      · rw [f3 36 i (by unfold scL; omega) (by omega), f3 37 i (by unfold scL; omega) (by omega), f3 38 i (by unfold scL; omega) (by omega), f3 39 i (by unfold scL; omega) (by omega)]
        exact p2.2 i hi
      · obtain ⟨⟨-, -, l4, lw4⟩, -, -, ⟨-, e6, e7⟩, -⟩ := w4
        have u : ∀ b k, ¬ scL b → ¬ (50 ≤ b ∧ b ≤ 131) → ¬ (40 ≤ b ∧ b ≤ 44) → b ≠ 35 → ¬ (b = 32 ∧ k = 17) → mset M4 32 17 (M4 35 7) b k = M2 b k := fun b k q1 q2 q3 q4 q5 => by
          unfold mset; rw [if_neg q5, f4 b k q1 (by omega) (by omega)]; exact f3 b k q1 (by omega)
        rw [e6]
        refine kk1 p0 hp lw4 _ (x4.set (by decide +kernel)) (fun a k h9 => (u a k (by unfold scL; omega) (by omega) (by omega) (by omega) (by omega)).trans (hi2 a k h9)) (h2.upd (fun b k q1 q2 q3 q4 q5 q6 => u b k q3 q5 (by omega) (by omega) (by omega)) ⟨(u _ _ (by unfold scL; omega) (by omega) (by omega) (by omega) (by omega)).trans z2, fun i hi => absurd hi (by omega), (u _ _ (by unfold scL; omega) (by omega) (by omega) (by omega) (by omega)).trans t.2⟩ (l4.fr (fun b j q1 q2 => ms_na (by omega))) lw4 (p3.fr (fun b j q1 q2 => ?_)) ⟨(u _ _ (by unfold scL; omega) (by omega) (by omega) (by omega) (by omega)).trans h2.2.2.2.2.1.1, fun i hi => ⟨(h2.2.2.2.2.1.2 i hi).1.fr (fun b j q1 q2 => u _ _ (by unfold scL; omega) (by omega) (by omega) (by omega) (by omega)), (h2.2.2.2.2.1.2 i hi).2.fr (fun b j q1 q2 => u _ _ (by unfold scL; omega) (by omega) (by omega) (by omega) (by omega))⟩⟩ (ms_eq.trans e7))
        rw [ms_na (by omega)]; exact f4 b j (by unfold scL; omega) (by omega) (by omega)
  · rw [h33] at hv
    rw [h50] at hge
    refine g84 (n := 0) (B := B) hK hX (by omega) (fun i hi => absurd hi (by omega)) (fun M1 x1 f1 t1 z1 => Bk_n (u101_32 hK x1 ?_))
    exact k0 ⟨hv.1.1, hv.1.2, hv.2⟩ (by omega) M1 x1 (fun a k h9 => f1 a k (by omega)) (CS.rdw hI h (fun a k h9 => f1 a k (by omega)) (TpC.rd t1 z1))
end CWK
