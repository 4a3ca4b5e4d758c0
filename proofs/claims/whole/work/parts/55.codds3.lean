/-! odds: a day -/
section CZ
variable {d : Nat} {M M' : Mem} {K : KK} {Q : RR → Mem → KK → Prop} {cm a l p wa wb : Nat} {c s : Mem} {L : LC} {q r : Int}
/-- only vectors, their names and the law's scratch have changed -/
def FrOd (M M' : Mem) : Prop := ∀ b k, ¬ scL b → ¬ (144 ≤ b ∧ b ≤ 146) → M' b k = M b k
theorem g49 {W : Nat → Int} {day : Nat} (hK : K.1 = 923) (hX : FX M) (hcm : isO 923 cm 0 = true) (ha : isO 923 a 3 = true) (hd : a + 4 < 144 ∨ 146 < a) (hs : SKc M cm a c s) (hL : LWC M cm L l) (hp : p < nSt c) (hq : 0 ≤ q ∧ q ≤ 16) (hO : OW M wa wb) (hday : day ≤ 8) (hW : ∀ i, 0 ≤ W i) (hsum : sumF W 100 ≤ 4294967296) (hWM : ∀ g, g < 100 → M wa g = W g)
    (k : ∀ M', FX M' → FrOd M M' → OW M' wb wa → (M' 144 2 = M 144 2 ∧ M' 144 3 = M 144 3) → (∀ g, g < 100 → M' wb g = dayW W (nxG c L p (s 0 p) r (if day = 0 then s 2 p else 0) (if day = 0 then s 3 p else 0) (s 4 0 + (day : Int))) (nxG c L p (s 0 p) 0 (if day = 0 then s 2 p else 0) (if day = 0 then s 3 p else 0) (s 4 0 + (day : Int))) q 100 g) → Q (.inl none) M' K) : Wm (d + 3) 49 [vR 144, vR cm, vR a, vI (p : Int), vI (day : Int), vI q, vI r] M K Q := by
  have hs' := hs
  obtain ⟨hc, hw, hl, hlw⟩ := hs'
  have hn := hw.n.1
  have hg0 := rg0 hcm
  have hg2 := rg2 hL.2.1
  have hg3 := rg3 ha
  obtain ⟨⟨oa, la⟩, ⟨ob, lb⟩⟩ := hO.o
  have hO' := hO
  obtain ⟨hab, e0, e1⟩ := hO'
  have hbp : 0 ≤ (p : Int) ∧ (p : Int) < 6 := by omega
  have hdy := hlw.2.1
  refine u49_0 hK hX hcm ha ?_
  -- the facts, and the day's ways
  have body : ∀ M1 (x7 : Int) (x9 : Int), FX M1 → (∀ b k, b ≠ wb → M1 b k = M b k) → (∀ g, g < 100 → M1 wb g = 0) → (x7 = 0 ↔ s 0 p = -1) → Wp (d + 3) 49 39 [vR 144, vR cm, vR a, vI (p : Int), vI (day : Int), vI q, vI r, vI x9, vU, vU] [vI x7] M1 K Q := by
    intro M1 x7 x9 x1 f1 w1' h7
    have er : M1 (a + 2) (Int.toNat (p : Int)) = s 0 p := by
      rw [Int.toNat_natCast, f1 _ _ (by omega)]; exact (hl.1 p hp).1
    have hc1 : CC M1 cm c := ⟨fun k hk => (f1 _ _ (by omega)).trans (hc.1 k hk), fun b h1 h2 i hi => (f1 _ _ (by omega)).trans (hc.2 b h1 h2 i hi)⟩
    have hl1 : LK M1 a c s := hl.fr (fun b j h1 h2 => f1 b j (by omega))
    have hL1 : LWC M1 cm L l := ⟨(f1 _ _ (by omega)).trans hL.1, hL.2.1, ⟨(f1 _ _ (by omega)).trans hL.2.2.1.1, hL.2.2.1.2.1, fun i hi => (f1 _ _ (by omega)).trans (hL.2.2.1.2.2 i hi)⟩, hL.2.2.2⟩
    have go : ∀ M2 (wv mv : Int), FX M2 → Fr1 (l + 1) M1 M2 → (∀ j, j < 8 → M2 (l + 1) j = fcts (sunS c (s 0 p) (c 2 p)) (c 2 p) (s 1 p) (rainS c (s 4 0)) 0 0 (s 4 0) (s 0 p) j) → wv = (if day = 0 then s 2 p else 0) → mv = (if day = 0 then s 3 p else 0) → Wp (d + 3) 49 108 [vR 144, vR cm, vR a, vI (p : Int), vI (day : Int), vI q, vI r, vI x7, vR (l + 1), vI (0 : Int)] [] (mset (mset (mset M2 (l + 1) 6 (w32 (M2 a 4 + (day : Int)))) (l + 1) 4 wv) (l + 1) 5 mv) K Q := by
      intro M2 wv mv x2 f2 hfc hwv hmv
      have ea4 : M2 a 4 = s 4 0 := (f2 a 4 (by omega)).trans hl1.2.1
      rw [ea4, w32_id (z := s 4 0 + (day : Int)) (by omega)]
      generalize hM3 : mset (mset (mset M2 (l + 1) 6 (s 4 0 + (day : Int))) (l + 1) 4 wv) (l + 1) 5 mv = M3
      have f3 : ∀ b j, b ≠ l + 1 → M3 b j = M1 b j := by
        intro b j hb
        rw [← hM3, ms_na hb, ms_na hb, ms_na hb]; exact f2 b j hb
      have x3 : FX M3 := by
        rw [← hM3]; exact ((x2.set (nfa (q2_0 hL.2.1) _)).set (nfa (q2_0 hL.2.1) _)).set (nfa (q2_0 hL.2.1) _)
      have hfo : FO M3 l c p (s 0 p) wv mv (s 4 0 + (day : Int)) := by
        intro j h1 h2 h3
        rw [← hM3]
        by_cases h5 : j = 5
        · subst h5; rw [ms_eq]; rfl
        · by_cases h4 : j = 4
          · subst h4; rw [ms_nk (by decide), ms_eq]; rfl
          · by_cases h6 : j = 6
            · subst h6; rw [ms_nk (by decide), ms_nk (by decide), ms_eq]; rfl
            · rw [ms_nk h5, ms_nk h4, ms_nk h6, hfc j h1]
              rcases (show j = 0 ∨ j = 1 ∨ j = 7 by omega) with rfl | rfl | rfl <;> rfl
      have hO3 : OW M3 wa wb := ⟨hab, (f3 144 0 (by omega)).trans ((f1 144 0 (by omega)).trans e0), (f3 144 1 (by omega)).trans ((f1 144 1 (by omega)).trans e1)⟩
      have hc3 : CR M3 l (eff L) := ⟨(f3 _ _ (by omega)).trans hL1.2.2.1.1, hL1.2.2.1.2.1, fun i hi => (f3 _ _ (by omega)).trans (hL1.2.2.1.2.2 i hi)⟩
      refine odd_loop (x1 := 0) (L := L) (W := W) hK hcm ha hL.2.1 hq hO3 ((f3 _ _ (by omega)).trans hL1.1) hc3 hL.2.2.2 hfo h7 hW hsum (fun g hg => (f3 _ _ (by omega)).trans ((f1 _ _ (by omega)).trans (hWM g hg))) (fun M4 x4 f4 w4 => ?_) 100 0 rfl M3 x3 (fun _ _ _ _ _ => rfl) (fun g hg => (f3 _ _ (by omega)).trans (w1' g hg))
      refine k _ ((x4.set (by decide +kernel)).set (by decide +kernel)) (fun b j h1 h2 => ?_) ⟨by omega, ?_, ms_eq⟩ ⟨?_, ?_⟩ (fun g hg => ?_)
      · rw [ms_na (by omega), ms_na (by omega), f4 b j (by unfold scL at h1; omega) (by unfold scL at h1; omega) (by omega), f3 b j (by unfold scL at h1; omega)]
        exact f1 b j (by omega)
      · rw [ms_nk (by decide), ms_eq]
      · rw [ms_nk (by decide), ms_nk (by decide), f4 144 2 (by omega) (by omega) (by omega), f3 _ _ (by omega)]; exact f1 _ _ (by omega)
      · rw [ms_nk (by decide), ms_nk (by decide), f4 144 3 (by omega) (by omega) (by omega), f3 _ _ (by omega)]; exact f1 _ _ (by omega)
      · rw [ms_na (by omega), ms_na (by omega), ← hwv, ← hmv]; exact w4 g hg
    refine u49_39 hK x1 hcm ha ⟨hbp, c, s, L, l, p, ⟨rfl, ⟨hc1, hw, hl1, hlw⟩, hL1, hp, ?_⟩, fun M2 x2 p2 => ⟨hL.2.1, fun h => ?_, fun h => ⟨hbp, hbp, ?_⟩⟩⟩
    · rw [er]; exact (hlw.1 p hp).1
    · obtain ⟨f2, hfc⟩ := p2
      rw [er] at hfc
      exact go M2 0 0 x2 f2 hfc (by rw [if_neg (by omega)]) (by rw [if_neg (by omega)])
    · obtain ⟨f2, hfc⟩ := p2
      rw [er] at hfc
      have hd0 : day = 0 := by omega
      refine go M2 _ _ x2 f2 hfc ?_ ?_
      · rw [if_pos hd0, Int.toNat_natCast, f2 _ _ (by omega)]; exact (hl1.1 p hp).2.2.1
      · rw [if_pos hd0, Int.toNat_natCast, f2 _ _ (by omega)]; exact (hl1.1 p hp).2.2.2
  have loop : ∀ f i, i + f = 100 → ∀ M1, FX M1 → (∀ b k, b ≠ wb → M1 b k = M b k) → (∀ g, g < i → M1 wb g = 0) → Wp (d + 3) 49 3 [vR 144, vR cm, vR a, vI (p : Int), vI (day : Int), vI q, vI r, vI (i : Int), vU, vU] [] M1 K Q := by
    intro f
    induction f with
    | zero =>
      intro i hi M1 x1 f1 w1'
      have er : M1 (a + 2) (Int.toNat (p : Int)) = s 0 p := by
        rw [Int.toNat_natCast, f1 _ _ (by omega)]; exact (hl.1 p hp).1
      refine u49_3 hK x1 hcm ha ⟨fun _ => ⟨hbp, fun h => ?_, fun h => ?_⟩, fun h => absurd h (by omega)⟩
      · rw [er] at h
        exact body M1 0 _ x1 f1 (fun g hg => w1' g (by omega)) ⟨fun _ => h, fun _ => rfl⟩
      · rw [er] at h
        exact body M1 1 _ x1 f1 (fun g hg => w1' g (by omega)) ⟨fun h9 => absurd h9 (by decide), fun h9 => absurd h9 h⟩
    | succ f ih =>
      intro i hi M1 x1 f1 w1'
      have r1 : M1 144 1 = (wb : Int) := (f1 144 1 (by omega)).trans e1
      refine u49_3 hK x1 hcm ha ⟨fun h => absurd h (by omega), fun _ => ⟨wb, r1, ob, lb, by omega, ?_⟩⟩
      rw [w1 (by omega), Int.toNat_natCast]
      refine ih (i + 1) (by omega) _ (x1.set (nfa22 ob _)) (fun b k hb => (ms_na hb).trans (f1 b k hb)) (fun g hg => ?_)
      by_cases hgi : g = i
      · subst hgi; rw [ms_eq]
      · rw [ms_nk hgi]; exact w1' g (by omega)
  exact loop 100 0 rfl M hX (fun _ _ _ => rfl) (fun g hg => absurd hg (by omega))
end CZ
