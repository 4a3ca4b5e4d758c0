/-! odds: the class -/
section CO
variable {d : Nat} {M M' : Mem} {K : KK} {Q : RR → Mem → KK → Prop} {l p : Nat} {c : Mem} {L : LC} {x wet milk dy : Int}
/-- a law's facts, grey and rain aside -/
def FO (M : Mem) (l : Nat) (c : Mem) (p : Nat) (x wet milk dy : Int) : Prop := ∀ j, j < 8 → j ≠ 2 → j ≠ 3 → M (l + 1) j = fcts (sunS c x (c 2 p)) (c 2 p) 0 0 wet milk dy x j
/-- only grey, rain and the stack of the law l have changed -/
def FrL2 (l : Nat) (M M' : Mem) : Prop := ∀ a k, a ≠ l + 3 → ¬ (a = l + 1 ∧ (k = 2 ∨ k = 3)) → M' a k = M a k
theorem FrL2.rf : FrL2 l M M := fun _ _ _ _ => rfl
theorem FrL2.tr {M1 M2 : Mem} (h1 : FrL2 l M M1) (h2 : FrL2 l M1 M2) : FrL2 l M M2 := fun a k p q => (h2 a k p q).trans (h1 a k p q)
theorem FO.fl (hf : FrL2 l M M') (h : FO M l c p x wet milk dy) : FO M' l c p x wet milk dy := fun j h1 h2 h3 => (hf (l + 1) j (by omega) (by omega)).trans (h j h1 h2 h3)
theorem CR.fl {L : LC} (hf : FrL2 l M M') (h : CR M l L) : CR M' l L := ⟨(hf l 3 (by omega) (by omega)).trans h.1, h.2.1, fun i hi => (hf (l + 2) i (by omega) (by omega)).trans (h.2.2 i hi)⟩
theorem g50z {g rain : Int} (hK : K.1 = 923) (hX : FX M) (hl : isO 923 l 2 = true) (h : CR M l (eff L) ∧ Vd (eff L) 0 1 ∧ FO M l c p x wet milk dy ∧ 0 ≤ g ∧ g ≤ 99) (k : ∀ M', FX M' → FrL2 l M M' → Q (.inl (some (vI (oddT c L p x rain wet milk dy g)))) M' K) : Wm (d + 2) 50 [vR l, vI g, vI rain] M K Q := by
  obtain ⟨hc, hv, hf, hg⟩ := h
  have f1 : FrL2 l M (mset (mset M (l + 1) 2 g) (l + 1) 3 rain) := by
    intro a k h1 h2
    unfold mset
    rw [if_neg (fun h => h2 ⟨h.1, Or.inr h.2⟩), if_neg (fun h => h2 ⟨h.1, Or.inl h.2⟩)]
  refine u50_0 hK hX hl ⟨eff L, ⟨hc.fl f1, hv⟩, fun M2 x2 f2 => ?_⟩
  have e : clmp ((evA ((mset (mset M (l + 1) 2 g) (l + 1) 3 rain) (l + 1)) (eff L)).2 0) = whB c L p x g rain wet milk dy := by
    show wh _ L = wh _ L
    refine wh_c (fun j hj => ?_) hv
    by_cases h3 : j = 3
    · subst h3; rw [ms_eq]; rfl
    · by_cases h2 : j = 2
      · subst h2; rw [ms_nk (by decide), ms_eq]; rfl
      · rw [ms_nk h3, ms_nk h2, hf j hj h2 h3]
        unfold fcts
        rcases (show j = 0 ∨ j = 1 ∨ j = 4 ∨ j = 5 ∨ j = 6 ∨ j = 7 by omega) with rfl | rfl | rfl | rfl | rfl | rfl <;> rfl
  have hr := whB_rg (c := c) (L := L) (p := p) (x := x) (g := g) (rain := rain) (wet := wet) (milk := milk) (dy := dy)
  rw [e, w32_id (by omega), jmax_eq]
  exact k M2 x2 (f1.tr (fun a k' h1 _ => f2 a k' h1))
end CO
