/-! a day, a mole: the model -/
theorem z27 : ∀ a, a < 923 → ln a = 27 → a = 441 ∨ 805 ≤ a := by decide +kernel
theorem r27 {r : Nat} (hr : isO 923 r 20 = true) (hz : L27 r) : r = 441 ∨ 807 ≤ r := by
  have := z27 r (isO_d hr).2.1 hz
  have := ne27 hz
  omega
def FrJ (r : Nat) (M M' : Mem) : Prop := ∀ a k, a ≠ 805 → a ≠ 806 → a ≠ r → M' a k = M a k
theorem FrJ.rf {r : Nat} {M : Mem} : FrJ r M M := fun _ _ _ _ _ => rfl
theorem FrJ.tr {r : Nat} {M M1 M2 : Mem} (h1 : FrJ r M M1) (h2 : FrJ r M1 M2) : FrJ r M M2 := fun a k p q t => (h2 a k p q t).trans (h1 a k p q t)
theorem FrV.J {r : Nat} {M M' : Mem} (h : FrV M M') : FrJ r M M' := fun a k p q _ => h a k p q
theorem FrJ.up {r : Nat} {M M1 : Mem} {k : Nat} {v : Int} (h : FrJ r M M1) : FrJ r M (mset M1 r k v) := by
  intro b k' p q t
  rw [ms_na t]
  exact h b k' p q t
section MJ
variable {d : Nat} {M M' : Mem} {K : KK} {Q : RR → Mem → KK → Prop} {r p : Nat} {c s : Mem} {L : LC} {dr rain : Int}
theorem MCc.j (hr : isO 923 r 20 = true) (hz : L27 r) (hw : CW c) (hf : FrJ r M M') (h : MCc M c) : MCc M' c := by
  obtain ⟨w0, w1', w2, w3, -⟩ := hw
  have hn := r27 hr hz
  exact ⟨fun k hk => (hf 444 k (by omega) (by omega) (by omega)).trans (h.1 k hk), fun i hi => (hf 446 i (by omega) (by omega) (by omega)).trans (h.2.1 i hi), fun i hi => ⟨(hf _ 0 (by omega) (by omega) (by omega)).trans (h.2.2.1 i hi).1, (hf _ 1 (by omega) (by omega) (by omega)).trans (h.2.2.1 i hi).2⟩, fun i hi => (hf 448 i (by omega) (by omega) (by omega)).trans (h.2.2.2.1 i hi), fun i hi => (hf 450 i (by omega) (by omega) (by omega)).trans (h.2.2.2.2 i hi)⟩
theorem LM.j (hr : isO 923 r 20 = true) (hz : L27 r) (hf : FrJ r M M') (h : LM M L) : LM M' L := by
  have hn := r27 hr hz
  have h9 := h.2.1
  exact ⟨(hf 440 21 (by decide) (by decide) (by omega)).trans h.1, h.2.1, fun i hi => ⟨(hf _ 0 (by omega) (by omega) (by omega)).trans (h.2.2.1 i hi).1, (hf _ 1 (by omega) (by omega) (by omega)).trans (h.2.2.1 i hi).2⟩, h.2.2.2⟩
theorem LMr.set (hw : CW c) (h : LMr M r c s) {b k : Nat} {v : Int} (hb : b < 4) (hp : p < 6) (hk : k = 6 * b + p) : LMr (mset M r k v) r c (mset s b p v) := by
  subst hk
  have hn := hw.n.1
  refine ⟨fun q hq => ?_, ?_, ?_⟩
  · obtain ⟨h0, h1, h2, h3⟩ := h.1 q hq
    have g : ∀ b', b' < 4 → M r (6 * b' + q) = s b' q → mset M r (6 * b + p) v r (6 * b' + q) = mset s b p v b' q := by
      intro b' hb' e
      by_cases hc : b' = b ∧ q = p
      · obtain ⟨rfl, rfl⟩ := hc; rw [ms_eq, ms_eq]
      · rw [ms_nk (by omega), e]
        unfold mset; rw [if_neg hc]
    exact ⟨by have := g 0 (by omega) (by simpa using h0); simpa using this, g 1 (by omega) h1, g 2 (by omega) h2, g 3 (by omega) h3⟩
  · rw [ms_nk (by omega), ms_na (by omega)]; exact h.2.1
  · rw [ms_nk (by omega), ms_na (by omega)]; exact h.2.2
theorem LMr.eq {s' : Mem} (h : LMr M r c s) (e : ∀ b p, (b < 4 ∧ p < nSt c) ∨ (b = 4 ∧ p < 2) → s' b p = s b p) : LMr M r c s' := by
  refine ⟨fun q hq => ?_, ?_, ?_⟩
  · rw [e 0 q (by omega), e 1 q (by omega), e 2 q (by omega), e 3 q (by omega)]; exact h.1 q hq
  · rw [e 4 0 (by omega)]; exact h.2.1
  · rw [e 4 1 (by omega)]; exact h.2.2
/-- the grey of strips below i has the day behind it -/
def dayG (c : Mem) (L : LC) (s : Mem) (rain : Int) (i : Nat) : Mem := fun b p => if b = 1 ∧ p < i then dayS c L s rain 1 p else s b p
/-- all grey, and milk and wets of strips below i -/
def dayH (c : Mem) (L : LC) (s : Mem) (rain : Int) (i : Nat) : Mem := fun b p => if b = 1 then dayS c L s rain 1 p else if (b = 2 ∨ b = 3) ∧ p < i then 0 else s b p
theorem dayG_w {i : Nat} (h : LW c s) : LW c (dayG c L s rain i) := by
  obtain ⟨h1, h2, h3, h4⟩ := h
  refine ⟨fun p hp => ?_, by simpa [dayG] using h2, by simpa [dayG] using h3, fun p q hp hq hpq => by simpa [dayG] using h4 p q hp hq hpq⟩
  obtain ⟨a1, a2, a3, a4⟩ := h1 p hp
  have := whN_rg (c := c) (s := s) (L := L) (p := p) (rain := rain)
  by_cases hpi : p < i
  · simp only [dayG, dayS]
    simp [hpi]; omega
  · simp only [dayG]
    simp [hpi]; omega
theorem dayG_wh {i : Nat} : whN c (dayG c L s rain i) L i rain = whN c s L i rain := by
  unfold whN
  simp [dayG]
theorem g198 (hK : K.1 = 923) (hX : FX M) (hr : isO 923 r 20 = true) (hz : L27 r) (h : SM M r c s dr ∧ LM M L ∧ s 4 0 < 2000) (k : ∀ M', FX M' → (FrJ r M M' ∧ LMr M' r c (dayS c L s (rainM c s dr)) ∧ M' r 26 = dr) → Q (.inl none) M' K) : Wm (d + 5) 198 [vR 440, vR r] M K Q := by
  obtain ⟨⟨hc, hw, hl, hlw, hd⟩, hL, hday⟩ := h
  have hn := hw.n.1
  have hr27 := r27 hr hz
  obtain ⟨-, e1, -⟩ := hc.g hw
  refine u198_0 hK hX hr hz ?_
  generalize hR : rainM c s dr = rain at k
  have loop2 : ∀ f i, i + f = nSt c → ∀ M1, FX M1 → FrJ r M M1 → LMr M1 r c (dayH c L s rain i) → M1 r 26 = dr → Wp (d + 5) 198 43 [vR 440, vR r, vI (i : Int)] [] M1 K Q := by
    intro f
    induction f with
    | zero =>
      intro i hi M1 x1 f1 l1 e26
      have e11 : M1 444 1 = (nSt c : Int) := (f1 444 1 (by decide) (by decide) (by omega)).trans e1
      have e24 : M1 r 24 = s 4 0 := by have := l1.2.1; simpa [dayH] using this
      have hdy := hlw.2.1
      refine u198_43 hK x1 hr hz ⟨fun _ => ?_, fun h => by omega⟩
      rw [e24, w32_id (by omega)]
      refine k _ (x1.set (nfa hr _)) ⟨f1.up, ⟨fun q hq => ?_, ?_, ?_⟩, ?_⟩
      · rw [ms_nk (by omega), ms_nk (by omega), ms_nk (by omega), ms_nk (by omega)]
        have := l1.1 q hq
        have hqi : q < i := by omega
        simp [dayH, hqi] at this
        simpa [dayS] using this
      · rw [ms_eq]; simp [dayS]
      · rw [ms_nk (by decide), l1.2.2]; simp [dayH, dayS]
      · rw [ms_nk (by decide)]; exact e26
    | succ f ih =>
      intro i hi M1 x1 f1 l1 e26
      have e11 : M1 444 1 = (nSt c : Int) := (f1 444 1 (by decide) (by decide) (by omega)).trans e1
      have hi6 : i < 6 := by omega
      have hb1 : ¬ M1 444 1 ≤ (i : Int) := by omega
      refine u198_43 hK x1 hr hz ⟨fun h => absurd h hb1, fun _ => ⟨bx12 hi6, bx18 hi6, ?_⟩⟩
      rw [ix12 hi6, ix18 hi6, w1 (i := i) (by omega)]
      refine ih (i + 1) (by omega) _ ((x1.set (nfa hr _)).set (nfa hr _)) f1.up.up ?_ ?_
      · refine ((l1.set hw (b := 2) (p := i) (by decide) hi6 rfl).set hw (b := 3) (p := i) (by decide) hi6 rfl).eq (fun b q hbq => ?_)
        simp only [dayH, mset]
        by_cases hqi : q = i
        · subst hqi
          rcases hbq with ⟨hb, -⟩ | ⟨rfl, -⟩
          · rcases (show b = 0 ∨ b = 1 ∨ b = 2 ∨ b = 3 by omega) with rfl | rfl | rfl | rfl <;> simp
          · simp
        · have : (q < i + 1) ↔ q < i := by omega
          simp [this, hqi]
      · rw [ms_nk (by omega), ms_nk (by omega)]; exact e26
  have loop : ∀ f i, i + f = nSt c → ∀ M1, FX M1 → FrJ r M M1 → LMr M1 r c (dayG c L s rain i) → M1 r 26 = dr → Wp (d + 5) 198 2 [vR 440, vR r, vI (i : Int)] [] M1 K Q := by
    intro f
    induction f with
    | zero =>
      intro i hi M1 x1 f1 l1 e26
      have e11 : M1 444 1 = (nSt c : Int) := (f1 444 1 (by decide) (by decide) (by omega)).trans e1
      refine u198_2 hK x1 hr hz ⟨fun _ => loop2 (nSt c) 0 (by omega) M1 x1 f1 (l1.eq (fun b q hbq => ?_)) e26, fun h => by omega⟩
      simp only [dayG, dayH]
      rcases hbq with ⟨hb, hq⟩ | ⟨rfl, -⟩
      · have : q < i := by omega
        by_cases hb1 : b = 1
        · simp [hb1, this]
        · simp [hb1]
      · simp
    | succ f ih =>
      intro i hi M1 x1 f1 l1 e26
      have e11 : M1 444 1 = (nSt c : Int) := (f1 444 1 (by decide) (by decide) (by omega)).trans e1
      have hi6 : i < 6 := by omega
      have hb1 : ¬ M1 444 1 ≤ (i : Int) := by omega
      have hin : i < nSt c := by omega
      have hrn : rainM c (dayG c L s rain i) dr = rain := by
        rw [← hR]; unfold rainM; simp [dayG]
      have hSM : SM M1 r c (dayG c L s rain i) dr := ⟨hc.j hr hz hw f1, hw, l1, dayG_w hlw, e26⟩
      obtain ⟨-, g1, -⟩ := l1.1 i hin
      have g1' : M1 r (6 + i) = s 1 i := by simpa [dayG] using g1
      have wr := whN_rg (c := c) (s := s) (L := L) (p := i) (rain := rain)
      obtain ⟨-, w1', -⟩ := hlw.1 i hin
      refine u198_2 hK x1 hr hz ⟨fun h => absurd h hb1, fun _ => ⟨bx6 hi6, c, dayG c L s rain i, L, i, dr, ⟨rfl, hSM, hL.j hr hz f1, hin⟩, fun M2 x2 f2 => ⟨bx6 hi6, ?_⟩⟩⟩
      rw [ix6 hi6, w1 (i := i) (by omega), hrn, dayG_wh, g1', w32_id (by omega)]
      have l2 := l1.v hz f2
      refine ih (i + 1) (by omega) _ (x2.set (nfa hr _)) ((f1.tr f2.J).up) ?_ ?_
      · refine (l2.set hw (b := 1) (p := i) (by decide) hi6 rfl).eq (fun b q hbq => ?_)
        simp only [dayG, mset]
        by_cases hqi : q = i
        · subst hqi
          by_cases hb1 : b = 1
          · simp [hb1, dayS]
          · simp [hb1]
        · have : (q < i + 1) ↔ q < i := by omega
          simp [this, hqi]
      · rw [ms_nk (by omega), f2 r 26 (ne27 hz).1 (ne27 hz).2]; exact e26
  refine loop (nSt c) 0 (by omega) M hX FrJ.rf (hl.eq (fun b q _ => by simp [dayG])) hd
theorem g199 {cell : Int} (hK : K.1 = 923) (hX : FX M) (hr : isO 923 r 20 = true) (hz : L27 r) (h : SM M r c s dr) (k : ∀ M', FX M' → (FrJ r M M' ∧ LMr M' r c (digS c s cell) ∧ M' r 26 = dr) → Q (.inl (some (vI (bI (lyOn c s cell ≠ -1))))) M' K) : Wm (d + 2) 199 [vR 440, vR r, vI cell] M K Q := by
  have hs := h
  obtain ⟨hc, hw, hl, hlw, hd⟩ := hs
  have hn := hw.n.1
  refine u199_0 hK hX hr hz ⟨c, s, dr, h, fun hne => ?_, fun he => ?_⟩
  · rcases lyOn_rg (c := c) (s := s) (cell := cell) with h9 | ⟨p, h9, hp, -⟩
    · exact absurd h9 hne
    · obtain ⟨-, f1, -⟩ := hl.1 p hp
      obtain ⟨-, w1', -⟩ := hlw.1 p hp
      rw [bI_t hne] at k
      have hdig : digS c s cell = mset s 1 p (min 99 (s 1 p + 5)) := by
        unfold digS; rw [if_neg hne, h9, Int.toNat_natCast]
      rw [hdig] at k
      have hp6 : p < 6 := by omega
      rw [h9, ix6 hp6, f1, w32_id (z := s 1 p + 5) (by omega)]
      exact ⟨bx6 hp6, bx6 hp6, k _ (hX.set (nfa hr _)) ⟨FrJ.rf.up, hl.set hw (b := 1) (by decide) hp6 rfl, by rw [ms_nk (by omega)]; exact hd⟩⟩
  · rw [bI_f (fun h => h he)] at k
    have hdig : digS c s cell = s := by unfold digS; rw [if_pos he]
    rw [hdig] at k
    exact k M hX ⟨FrJ.rf, hl, hd⟩
end MJ
