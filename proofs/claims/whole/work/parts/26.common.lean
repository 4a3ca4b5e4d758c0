/-! a common is read: what the text says; the class -/
def cntOf (a : Nat) : Nat := if a = 1 then 0 else if a = 2 then 1 else if a = 3 then 1 else if a = 4 then 2 else 3
def capF (k : Int) : Int := if k = 0 then 12 else if k = 1 then 6 else if k = 2 then 8 else 7
abbrev XC : Type := ST × Mem
/-- the class's common at cm holds c: block 0 the numbers, 1 sun, 2 yards, 3 grey, 4 deeds, 5 rain -/
def CC (M : Mem) (cm : Nat) (c : Mem) : Prop := (∀ k, k < 6 → M cm (5 + k) = c 0 k) ∧ ∀ a, 1 ≤ a → a ≤ 5 → ∀ i : Nat, (i : Int) < c 0 (cntOf a) → M (cm + a) i = c a i
/-- a common as it can be -/
def CW (c : Mem) : Prop := (0 ≤ c 0 0 ∧ c 0 0 ≤ 12) ∧ (0 ≤ c 0 1 ∧ c 0 1 ≤ 6) ∧ (0 ≤ c 0 2 ∧ c 0 2 ≤ 8) ∧ (0 ≤ c 0 3 ∧ c 0 3 ≤ 7) ∧ (0 ≤ c 0 4 ∧ c 0 4 ≤ 99) ∧ (0 ≤ c 0 5 ∧ c 0 5 ≤ 4) ∧
  (∀ i : Nat, (i : Int) < c 0 0 → 0 ≤ c 1 i ∧ c 1 i ≤ 9) ∧ (∀ i : Nat, (i : Int) < c 0 1 → 1 ≤ c 2 i ∧ c 2 i ≤ 6) ∧ (∀ i : Nat, (i : Int) < c 0 1 → 1 ≤ c 3 i ∧ c 3 i ≤ 99) ∧ (∀ i : Nat, (i : Int) < c 0 2 → 1 ≤ c 4 i ∧ c 4 i ≤ 9) ∧ (∀ i : Nat, (i : Int) < c 0 3 → 0 ≤ c 5 i ∧ c 5 i ≤ 9)
section KF
variable (B : BY) (n : Nat)
def kdF (k : Int) (st : ST) (c : Mem) : XC :=
  if k = 0 then ((tNum B n 0 9 st).2, mset (mset c 1 (c 0 0).toNat (tNum B n 0 9 st).1) 0 0 (c 0 0 + 1))
  else if k = 1 then ((tNum B n 1 99 (tNum B n 1 6 st).2).2, mset (mset (mset c 2 (c 0 1).toNat (tNum B n 1 6 st).1) 3 (c 0 1).toNat (tNum B n 1 99 (tNum B n 1 6 st).2).1) 0 1 (c 0 1 + 1))
  else if k = 2 then ((tNum B n 1 9 st).2, mset (mset c 4 (c 0 2).toNat (tNum B n 1 9 st).1) 0 2 (c 0 2 + 1))
  else if k = 3 then ((tNum B n 0 9 st).2, mset (mset c 5 (c 0 3).toNat (tNum B n 0 9 st).1) 0 3 (c 0 3 + 1))
  else if k = 4 then ((tNum B n 0 99 st).2, mset c 0 4 (tNum B n 0 99 st).1)
  else ((tNum B n 0 4 st).2, mset c 0 5 (tNum B n 0 4 st).1)
def kWd : ST → Int
  | .inl p => nmOf (wdL B p (sp isS B n p)) [2, 3, 4, 5, 6, 7] 0
  | .inr _ => -1
def clF (cl : Nat) (x : XC) : XC := match x.1 with
  | .inr f => (.inr f, x.2)
  | .inl p => if kWd B n (.inl p) = -1 then (.inr (1, (p : Int)), x.2)
    else if 60 ≤ cl ∨ (kWd B n (.inl p) < 4 ∧ capF (kWd B n (.inl p)) ≤ x.2 0 (kWd B n (.inl p)).toNat) then (.inr (3, (p : Int)), x.2)
    else (tSign B n 59 (kdF B n (kWd B n (.inl p)) (tWord B n (.inl p)) x.2).1, (kdF B n (kWd B n (.inl p)) (tWord B n (.inl p)) x.2).2)
def clL : Nat → Nat → XC → XC
  | 0, _, x => x
  | f + 1, cl, x => if pk B n x.1 = -1 then x else clL f (cl + 1) (clF B n cl x)
end KF
/-- a common without clauses -/
def c00 : Mem := fun a k => if a = 0 then (if k = 4 then 5 else if k = 5 then 1 else 0) else 0
theorem CW00 : CW c00 := by
  refine ⟨by decide, by decide, by decide, by decide, by decide, by decide, ?_, ?_, ?_, ?_, ?_⟩ <;> · intro i hi; simp [c00] at hi; omega
def pCom (B : BY) (n : Nat) : XC := clL B n 61 0 (.inl (sk B n 0), c00)
section KW
variable {B : BY} {n : Nat}
theorem tNum_rg {lo hi : Int} (h : lo ≤ hi) (st : ST) : lo ≤ (tNum B n lo hi st).1 ∧ (tNum B n lo hi st).1 ≤ hi := by
  cases st with
  | inr f => simp only [tNum]; omega
  | inl p =>
    simp only [tNum]
    split
    · split
      · dsimp only; omega
      · dsimp only; omega
    · dsimp only; omega
theorem ms00 {c : Mem} {a k : Nat} {v : Int} {j : Nat} (h : a ≠ 0) : mset c a k v 0 j = c 0 j := ms_na (fun e => h e.symm)
theorem kdF0 {st : ST} {c : Mem} : kdF B n 0 st c = ((tNum B n 0 9 st).2, mset (mset c 1 (c 0 0).toNat (tNum B n 0 9 st).1) 0 0 (c 0 0 + 1)) := rfl
theorem kdF1 {st : ST} {c : Mem} : kdF B n 1 st c = ((tNum B n 1 99 (tNum B n 1 6 st).2).2, mset (mset (mset c 2 (c 0 1).toNat (tNum B n 1 6 st).1) 3 (c 0 1).toNat (tNum B n 1 99 (tNum B n 1 6 st).2).1) 0 1 (c 0 1 + 1)) := rfl
theorem kdF2 {st : ST} {c : Mem} : kdF B n 2 st c = ((tNum B n 1 9 st).2, mset (mset c 4 (c 0 2).toNat (tNum B n 1 9 st).1) 0 2 (c 0 2 + 1)) := rfl
theorem kdF3 {st : ST} {c : Mem} : kdF B n 3 st c = ((tNum B n 0 9 st).2, mset (mset c 5 (c 0 3).toNat (tNum B n 0 9 st).1) 0 3 (c 0 3 + 1)) := rfl
theorem kdF4 {st : ST} {c : Mem} : kdF B n 4 st c = ((tNum B n 0 99 st).2, mset c 0 4 (tNum B n 0 99 st).1) := rfl
theorem kdF5 {st : ST} {c : Mem} : kdF B n 5 st c = ((tNum B n 0 4 st).2, mset c 0 5 (tNum B n 0 4 st).1) := rfl
theorem kdF_w {k : Int} {st : ST} {c : Mem} (hc : CW c) (hk : 0 ≤ k ∧ k ≤ 5) (hf : ¬ (k < 4 ∧ capF k ≤ c 0 k.toNat)) : CW (kdF B n k st c).2 := by
  obtain ⟨h0, h1, h2, h3, h4, h5, a1, a2, a3, a4, a5⟩ := hc
  have r1 := tNum_rg (B := B) (n := n) (lo := 0) (hi := 9) (by decide) st
  have r2 := tNum_rg (B := B) (n := n) (lo := 1) (hi := 6) (by decide) st
  have r3 := tNum_rg (B := B) (n := n) (lo := 1) (hi := 99) (by decide) (tNum B n 1 6 st).2
  have r4 := tNum_rg (B := B) (n := n) (lo := 1) (hi := 9) (by decide) st
  have r5 := tNum_rg (B := B) (n := n) (lo := 0) (hi := 99) (by decide) st
  have r6 := tNum_rg (B := B) (n := n) (lo := 0) (hi := 4) (by decide) st
  rcases (show k = 0 ∨ k = 1 ∨ k = 2 ∨ k = 3 ∨ k = 4 ∨ k = 5 by omega) with rfl | rfl | rfl | rfl | rfl | rfl
  · have hf : c 0 0 < 12 := by simp [capF] at hf; omega
    rw [kdF0]
    refine ⟨?_, ?_, ?_, ?_, ?_, ?_, fun i => ?_, fun i => ?_, fun i => ?_, fun i => ?_, fun i => ?_⟩ <;> dsimp only [mset] <;> (try have := a1 i) <;> (try have := a2 i) <;> (try have := a3 i) <;> (try have := a4 i) <;> (try have := a5 i) <;> simp <;> (try split) <;> omega
  · have hf : c 0 1 < 6 := by simp [capF] at hf; omega
    rw [kdF1]
    refine ⟨?_, ?_, ?_, ?_, ?_, ?_, fun i => ?_, fun i => ?_, fun i => ?_, fun i => ?_, fun i => ?_⟩ <;> dsimp only [mset] <;> (try have := a1 i) <;> (try have := a2 i) <;> (try have := a3 i) <;> (try have := a4 i) <;> (try have := a5 i) <;> simp <;> (try split) <;> omega
  · have hf : c 0 2 < 8 := by simp [capF] at hf; omega
    rw [kdF2]
    refine ⟨?_, ?_, ?_, ?_, ?_, ?_, fun i => ?_, fun i => ?_, fun i => ?_, fun i => ?_, fun i => ?_⟩ <;> dsimp only [mset] <;> (try have := a1 i) <;> (try have := a2 i) <;> (try have := a3 i) <;> (try have := a4 i) <;> (try have := a5 i) <;> simp <;> (try split) <;> omega
  · have hf : c 0 3 < 7 := by simp [capF] at hf; omega
    rw [kdF3]
    refine ⟨?_, ?_, ?_, ?_, ?_, ?_, fun i => ?_, fun i => ?_, fun i => ?_, fun i => ?_, fun i => ?_⟩ <;> dsimp only [mset] <;> (try have := a1 i) <;> (try have := a2 i) <;> (try have := a3 i) <;> (try have := a4 i) <;> (try have := a5 i) <;> simp <;> (try split) <;> omega
  · rw [kdF4]
    refine ⟨?_, ?_, ?_, ?_, ?_, ?_, fun i => ?_, fun i => ?_, fun i => ?_, fun i => ?_, fun i => ?_⟩ <;> dsimp only [mset] <;> (try have := a1 i) <;> (try have := a2 i) <;> (try have := a3 i) <;> (try have := a4 i) <;> (try have := a5 i) <;> simp <;> (try split) <;> omega
  · rw [kdF5]
    refine ⟨?_, ?_, ?_, ?_, ?_, ?_, fun i => ?_, fun i => ?_, fun i => ?_, fun i => ?_, fun i => ?_⟩ <;> dsimp only [mset] <;> (try have := a1 i) <;> (try have := a2 i) <;> (try have := a3 i) <;> (try have := a4 i) <;> (try have := a5 i) <;> simp <;> (try split) <;> omega
theorem kWd_rg {st : ST} : kWd B n st = -1 ∨ (0 ≤ kWd B n st ∧ kWd B n st ≤ 5 ∧ ∃ p, st = .inl p) := by
  cases st with
  | inr f => exact Or.inl rfl
  | inl p =>
    rcases nmOf_lt (w := wdL B p (sp isS B n p)) [2, 3, 4, 5, 6, 7] 0 with h | ⟨h1, h2, -⟩
    · exact Or.inl h
    · simp only [List.length_cons, List.length_nil] at h2
      refine Or.inr ⟨h1, ?_, p, rfl⟩
      show nmOf (wdL B p (sp isS B n p)) [2, 3, 4, 5, 6, 7] 0 ≤ 5
      omega
theorem clF_w {cl : Nat} {x : XC} (hc : CW x.2) : CW (clF B n cl x).2 := by
  obtain ⟨st, c⟩ := x
  cases st with
  | inr f => exact hc
  | inl p =>
    simp only [clF]
    split
    · exact hc
    · split
      · exact hc
      · rename_i h1 h2
        rcases kWd_rg (B := B) (n := n) (st := .inl p) with h | h
        · exact absurd h h1
        · exact kdF_w hc ⟨h.1, h.2.1⟩ (fun h => h2 (Or.inr h))
theorem clL_w : ∀ (f cl : Nat) (x : XC), CW x.2 → CW (clL B n f cl x).2 := by
  intro f
  induction f with
  | zero => intro cl x h; exact h
  | succ f ih =>
    intro cl x h
    simp only [clL]
    split
    · exact h
    · exact ih _ _ (clF_w h)
theorem kdF_FL {k : Int} {f : Int × Int} {c : Mem} : (kdF B n k (.inr f) c).1 = .inr f := by
  simp only [kdF]
  split
  · rfl
  · split
    · rfl
    · split
      · rfl
      · split
        · rfl
        · split <;> rfl
end KW
/-! CC under writes -/
section CCW
variable {M : Mem} {cm : Nat} {c : Mem}
theorem CC.arr (h : CC M cm c) {a n : Nat} {v : Int} (ha : 1 ≤ a ∧ a ≤ 5) (hn : c 0 (cntOf a) ≤ (n : Int)) : CC (mset M (cm + a) n v) cm (mset c a n v) := by
  refine ⟨fun k hk => ?_, fun b hb1 hb2 i hi => ?_⟩
  · rw [ms_na (by omega), ms_na (by omega)]; exact h.1 k hk
  · rw [ms_na (by omega)] at hi
    by_cases hba : b = a
    · subst hba
      rw [ms_nk (by omega), ms_nk (by omega)]; exact h.2 b hb1 hb2 i hi
    · rw [ms_na (by omega), ms_na (by omega)]; exact h.2 b hb1 hb2 i hi
theorem CC.cnt (h : CC M cm c) {k n : Nat} (hk : k < 4) (hc : c 0 k = (n : Int)) (he : ∀ a, 1 ≤ a → a ≤ 5 → cntOf a = k → M (cm + a) n = c a n) : CC (mset M cm (5 + k) (c 0 k + 1)) cm (mset c 0 k (c 0 k + 1)) := by
  refine ⟨fun j hj => ?_, fun b hb1 hb2 i hi => ?_⟩
  · by_cases hjk : j = k
    · subst hjk; rw [ms_eq, ms_eq]
    · rw [ms_nk (by omega), ms_nk hjk]; exact h.1 j hj
  · rw [ms_na (by omega), ms_na (by omega)]
    by_cases hbk : cntOf b = k
    · rw [hbk, ms_eq] at hi
      by_cases hin : i = n
      · subst hin; exact he b hb1 hb2 hbk
      · exact h.2 b hb1 hb2 i (by rw [hbk]; omega)
    · rw [ms_nk hbk] at hi
      exact h.2 b hb1 hb2 i hi
theorem CC.val (h : CC M cm c) {k : Nat} {v : Int} (hk : 4 ≤ k ∧ k < 6) : CC (mset M cm (5 + k) v) cm (mset c 0 k v) := by
  refine ⟨fun j hj => ?_, fun b hb1 hb2 i hi => ?_⟩
  · by_cases hjk : j = k
    · subst hjk; rw [ms_eq, ms_eq]
    · rw [ms_nk (by omega), ms_nk hjk]; exact h.1 j hj
  · have : cntOf b ≠ k := by unfold cntOf; split; omega; split; omega; split; omega; split <;> omega
    rw [ms_na (by omega), ms_na (by omega)]
    rw [ms_nk this] at hi
    exact h.2 b hb1 hb2 i hi
theorem CC.t {M' : Mem} (hcm : isO 923 cm 0 = true) (hf : FrT M M') (h : CC M cm c) : CC M' cm c := by
  have hr := rg0 hcm
  exact ⟨fun k hk => (hf cm (5 + k) (by omega)).trans (h.1 k hk), fun a h1 h2 i hi => (hf (cm + a) i (by omega)).trans (h.2 a h1 h2 i hi)⟩
end CCW
