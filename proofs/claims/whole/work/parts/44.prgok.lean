/-! programs read are programs that can run -/
def okI (nC nS k a b : Int) : Prop := (0 ≤ k ∧ k ≤ 6) ∧ (k ≤ 3 → 0 ≤ a ∧ a < nS) ∧ (k = 0 → 0 ≤ b ∧ b < nC) ∧ (k = 6 → 0 ≤ a ∧ a ≤ 30)
def VE (nC nS : Int) (P : PG) (N i : Nat) : Prop := okI nC nS (P.2 i 0) (P.2 i 1) (P.2 i 2) ∧ ((i : Int) + 1 ≤ P.2 i 3 ∧ P.2 i 3 ≤ (N : Int)) ∧ (P.2 i 0 ≠ 6 → P.2 i 3 = (i : Int) + 1)
def VP (nC nS : Int) (r lo : Nat) (P : PG) : Prop := (∀ i, lo ≤ i → i < P.1 → VE nC nS P P.1 i) ∧ NV P r lo P.1
theorem NV_cg {P P' : PG} {N : Nat} : ∀ r i to, (∀ j, i ≤ j → j < N → P'.2 j 0 = P.2 j 0 ∧ P'.2 j 3 = P.2 j 3 ∧ (j : Int) + 1 ≤ P.2 j 3 ∧ P.2 j 3 ≤ (N : Int)) → to ≤ N → NV P r i to → NV P' r i to := by
  intro r
  induction r with
  | zero =>
    intro i to h ht hv j h1 h2
    rw [(h j h1 (by omega)).1]; exact hv j h1 h2
  | succ r ih =>
    intro i to h ht hv j h1 h2 h6
    obtain ⟨e0, e3, b1, b2⟩ := h j h1 (by omega)
    rw [e3]
    exact ih _ _ (fun j' h3 h4 => h j' (by omega) h4) (by omega) (hv j h1 h2 (by rw [← e0]; exact h6))
theorem NV_mono {P : PG} : ∀ r i to, NV P r i to → NV P (r + 1) i to := by
  intro r
  induction r with
  | zero => intro i to h j h1 h2 h6; exact absurd h6 (h j h1 h2)
  | succ r ih => intro i to h j h1 h2 h6; exact ih _ _ (h j h1 h2 h6)
theorem NV_nil {P : PG} {i : Nat} : ∀ r, NV P r i i := by
  intro r
  cases r with
  | zero => intro j h1 h2; omega
  | succ r => intro j h1 h2; omega
theorem NV_app {P : PG} : ∀ r i m to, NV P r i m → NV P r m to → NV P r i to := by
  intro r
  cases r with
  | zero =>
    intro i m to h1 h2 j h3 h4
    by_cases h : j < m
    · exact h1 j h3 h
    · exact h2 j (by omega) h4
  | succ r =>
    intro i m to h1 h2 j h3 h4 h6
    by_cases h : j < m
    · exact h1 j h3 h h6
    · exact h2 j (by omega) h4 h6
section PO
variable {B : BY} {n : Nat} {nC nS : Int}
def OKF (nC nS : Int) (r : Nat) (F : XP → XP) : Prop := ∀ x q, (F x).1 = .inl q → VP nC nS r x.2.1 (F x).2
theorem tNum_in {lo hi : Int} {st : ST} {q : Nat} (h : (tNum B n lo hi st).2 = .inl q) : lo ≤ (tNum B n lo hi st).1 ∧ (tNum B n lo hi st).1 ≤ hi := by
  cases st with
  | inr f => cases h
  | inl p =>
    simp only [tNum] at h ⊢
    split at h
    · rename_i hc
      rw [if_pos hc]
      split at h
      · cases h
      · rename_i hv; rw [if_neg hv]; dsimp only; omega
    · cases h
theorem VP_addP {P : PG} {r : Nat} {k a b : Int} (h : okI nC nS k a b) (h6 : k ≠ 6) : VP nC nS r P.1 (addP P k a b) := by
  have e0 : (addP P k a b).2 P.1 0 = k := by simp [addP, mset]
  have e1 : (addP P k a b).2 P.1 1 = a := by simp [addP, mset]
  have e2 : (addP P k a b).2 P.1 2 = b := by simp [addP, mset]
  have e3 : (addP P k a b).2 P.1 3 = (P.1 : Int) + 1 := by simp [addP, mset]
  have eN : (addP P k a b).1 = P.1 + 1 := rfl
  refine ⟨fun i h1 h2 => ?_, ?_⟩
  · have hi : i = P.1 := by omega
    subst hi
    refine ⟨?_, ?_, fun _ => e3⟩
    · rw [e0, e1, e2]; exact h
    · rw [e3, eN]; omega
  · rw [eN]
    cases r with
    | zero =>
      intro j h1 h2
      have hj : j = P.1 := by omega
      subst hj; rw [e0]; exact h6
    | succ r =>
      intro j h1 h2 h9
      have hj : j = P.1 := by omega
      subst hj; rw [e0] at h9; exact absurd h9 h6
/-- two pieces, one behind the other -/
theorem VP_app {P P' : PG} {r lo : Nat} (h1 : VP nC nS r lo P) (h2 : VP nC nS r P.1 P') (hle : P.1 ≤ P'.1) (he : ∀ i j, i < P.1 → P'.2 i j = P.2 i j) : VP nC nS r lo P' := by
  refine ⟨fun i h3 h4 => ?_, ?_⟩
  · by_cases h : i < P.1
    · obtain ⟨a1, a2, a3⟩ := h1.1 i h3 h
      unfold VE
      rw [he i 0 h, he i 1 h, he i 2 h, he i 3 h]
      exact ⟨a1, by omega, a3⟩
    · exact h2.1 i (by omega) h4
  · refine NV_app r lo P.1 P'.1 (NV_cg (N := P.1) r lo P.1 (fun j h3 h4 => ?_) (Nat.le_refl _) h1.2) h2.2
    obtain ⟨-, a2, -⟩ := h1.1 j h3 h4
    exact ⟨he j 0 h4, he j 3 h4, a2.1, a2.2⟩
theorem VP_nil {P : PG} {r : Nat} : VP nC nS r P.1 P := ⟨fun i h1 h2 => by omega, NV_nil r⟩
theorem OKF_ss {top : Bool} {F : XP → XP} {r : Nat} (hF : OKF nC nS r F) (hL : FLP F) (hm : ∀ x, x.2.1 ≤ (F x).2.1) (hE : EXP F) : ∀ f, OKF nC nS r (ssL B n top F f) := by
  intro f
  induction f with
  | zero => intro x q h; exact VP_nil
  | succ f ih =>
    intro x q h
    simp only [ssL] at h ⊢
    split
    · exact VP_nil
    · rename_i hc
      rw [if_neg hc] at h
      have hq : ∃ q', tSign B n 59 (F x).1 = .inl q' := by
        cases e : tSign B n 59 (F x).1 with
        | inl q' => exact ⟨q', rfl⟩
        | inr g => rw [e, ssL_FL f] at h; cases h
      obtain ⟨q', e⟩ := hq
      obtain ⟨q2, e2⟩ := sign_ok e
      have v1 := hF x q2 e2
      have v2 := ih _ q h
      dsimp only at v2
      refine VP_app v1 v2 ?_ ?_
      · exact mono_ss hm f (tSign B n 59 (F x).1, (F x).2)
      · intro i j hi; exact EXP_ss hE hm f (tSign B n 59 (F x).1, (F x).2) i j hi
theorem stN_in {k : Int} {st : ST} {q : Nat} (h : (stN B n nC nS k st).2.2 = .inl q) : (0 ≤ k → k ≤ 3 → 0 ≤ (stN B n nC nS k st).1 ∧ (stN B n nC nS k st).1 < nS) ∧ (k = 0 → 0 ≤ (stN B n nC nS k st).2.1 ∧ (stN B n nC nS k st).2.1 < nC) := by
  simp only [stN] at h ⊢
  refine ⟨fun h0 h3 => ?_, fun h0 => ?_⟩
  · rw [if_neg (show ¬ k = 5 by omega), if_neg (show ¬ k = 4 by omega)] at h ⊢
    have : ∃ q', (tNum B n 0 (nS - 1) st).2 = .inl q' := by
      by_cases hk : k = 0
      · rw [if_pos hk] at h; exact tNum_ok h
      · rw [if_neg hk] at h; exact ⟨q, h⟩
    obtain ⟨q', e⟩ := this
    have := tNum_in e
    omega
  · subst h0
    simp at h ⊢
    have := tNum_in h
    omega
theorem OKF_st {O : Option (XP → XP)} {r : Nat} (hO : ∀ S, O = some S → ∃ r', r = r' + 1 ∧ OKF nC nS r' S ∧ FLP S ∧ (∀ x, x.2.1 ≤ (S x).2.1) ∧ EXP S) : OKF nC nS r (stF B n nC nS O) := by
  rintro ⟨st, P⟩ q h
  cases st with
  | inr f => cases h
  | inl p =>
    simp only [stF] at h ⊢
    split
    · rename_i hc; rw [if_pos hc] at h; cases h
    · rename_i hc
      rw [if_neg hc] at h
      rcases stW_rg (B := B) (n := n) (st := .inl p) with hw | ⟨hw1, hw2, -⟩
      · exact absurd hw hc
      · split
        · rename_i h6
          rw [if_pos h6] at h
          cases O with
          | none => cases h
          | some S =>
            obtain ⟨r', rfl, hS, hSL, hSm, hSE⟩ := hO S rfl
            simp only [Option.elim, agF] at h ⊢
            generalize hT : tNum B n 0 30 (tWord B n (.inl p)) = T at h ⊢
            obtain ⟨q1, e1⟩ := sign_ok h
            have hq : ∃ q', tSign B n 91 T.2 = .inl q' := by
              cases e : tSign B n 91 T.2 with
              | inl q' => exact ⟨q', rfl⟩
              | inr g => rw [e, hSL] at e1; cases e1
            obtain ⟨q2, e2⟩ := hq
            obtain ⟨q3, e3⟩ := sign_ok e2
            have hin := tNum_in (B := B) (n := n) (lo := 0) (hi := 30) (st := tWord B n (.inl p)) (q := q3) (by rw [hT]; exact e3)
            rw [hT] at hin
            have v := hS _ q1 e1
            have hm := hSm (tSign B n 91 T.2, addP P 6 T.1 0)
            have hE := fun i j hi => hSE (tSign B n 91 T.2, addP P 6 T.1 0) i j hi
            generalize S (tSign B n 91 T.2, addP P 6 T.1 0) = R at v hm hE e1 ⊢
            have eN : (addP P 6 T.1 0).1 = P.1 + 1 := rfl
            dsimp only at hm hE v
            rw [eN] at hm hE v
            have f0 : R.2.2 P.1 0 = 6 := by rw [hE P.1 0 (by omega)]; simp [addP, mset]
            have f1 : R.2.2 P.1 1 = T.1 := by rw [hE P.1 1 (by omega)]; simp [addP, mset]
            have g0 : ∀ i, mset R.2.2 P.1 3 (R.2.1 : Int) i 0 = R.2.2 i 0 := fun i => ms_nk (by decide)
            have g1 : ∀ i, mset R.2.2 P.1 3 (R.2.1 : Int) i 1 = R.2.2 i 1 := fun i => ms_nk (by decide)
            have g2 : ∀ i, mset R.2.2 P.1 3 (R.2.1 : Int) i 2 = R.2.2 i 2 := fun i => ms_nk (by decide)
            have g3 : ∀ i, i ≠ P.1 → mset R.2.2 P.1 3 (R.2.1 : Int) i 3 = R.2.2 i 3 := fun i hi => ms_na hi
            have g4 : mset R.2.2 P.1 3 (R.2.1 : Int) P.1 3 = (R.2.1 : Int) := ms_eq
            have hnv : NV (R.2.1, mset R.2.2 P.1 3 (R.2.1 : Int)) r' (P.1 + 1) R.2.1 := by
              refine NV_cg (P := R.2) (N := R.2.1) r' (P.1 + 1) R.2.1 (fun j h3 h4 => ?_) (Nat.le_refl _) v.2
              obtain ⟨-, a2, -⟩ := v.1 j h3 h4
              exact ⟨g0 j, g3 j (by omega), a2.1, a2.2⟩
            refine ⟨fun i h3 h4 => ?_, ?_⟩
            · dsimp only at h4 h3
              by_cases hi : i = P.1
              · subst hi
                refine ⟨?_, ?_, ?_⟩
                · dsimp only; rw [g0, g1, f0, f1]; exact ⟨by omega, fun h => by omega, fun h => by omega, fun _ => hin⟩
                · dsimp only; rw [g4]; omega
                · intro h9; dsimp only at h9; rw [g0, f0] at h9; exact absurd rfl h9
              · have := v.1 i (by omega) h4
                unfold VE at this ⊢
                dsimp only
                rw [g0, g1, g2, g3 i hi]
                exact this
            · intro j h3 h4 h9
              dsimp only at h3 h4 h9 ⊢
              by_cases hj : j = P.1
              · subst hj
                rw [g4, Int.toNat_natCast]
                exact hnv
              · exact NV_mono r' (P.1 + 1) R.2.1 hnv j (by omega) h4 h9
        · rename_i h6
          rw [if_neg h6] at h
          refine VP_addP ⟨⟨hw1, hw2⟩, fun hk => ?_, fun hk => ?_, fun hk => absurd hk h6⟩ h6
          · exact (stN_in h).1 hw1 hk
          · exact (stN_in h).2 hk
/-- steps at r brackets more -/
theorem OKF_pSt : ∀ r, OKF nC nS r (stF B n nC nS (Olv B n nC nS r)) := by
  intro r
  induction r with
  | zero => exact OKF_st (fun S h => by cases h)
  | succ r ih =>
    refine OKF_st (fun S h => ?_)
    cases h
    have hx := pSt_ex (B := B) (n := n) (nC := nC) (nS := nS) r
    refine ⟨r, rfl, ?_, ?_, hx.2, hx.1⟩
    · rw [pSt_eq]
      exact OKF_ss ih stF_FL (mono_st (fun S h => by
        cases r with
        | zero => cases h
        | succ r => cases h; exact (pSt_ex r).2)) (EXP_st (fun S h => by
        cases r with
        | zero => cases h
        | succ r => cases h; exact (pSt_ex r).1)) 150
    · cases r with
      | zero => exact ssL_FL 150
      | succ r => exact ssL_FL 150
theorem pPrg_ok {q : Nat} (h : (pPrg B n nC nS).1 = .inl q) : VP nC nS 6 0 (pPrg B n nC nS).2 :=
  OKF_ss (OKF_pSt 6) stF_FL (mono_st (fun S h => by cases h; exact (pSt_ex 5).2)) (EXP_st (fun S h => by cases h; exact (pSt_ex 5).1)) 150 (.inl (sk B n 0), (0, fun _ _ => 0)) q h
theorem VP_c {c : Mem} {P : PG} (hw : CW c) (h : VP (c 0 0) (c 0 1) 6 0 P) : PVc c P ∧ NV P 6 0 P.1 := by
  have h0 := hw.1
  refine ⟨fun i hi => ?_, h.2⟩
  obtain ⟨⟨a1, a2, a3, a4⟩, b, e⟩ := h.1 i (by omega) hi
  exact ⟨⟨a1, a2, fun hk => by have := a3 hk; omega, a4⟩, b, e⟩
end PO
