/-! calls, fuel, depth -/
section EQ
variable {f d m pc n x y : Nat} {z : Int} {ins : Instr} {ls st : List PV} {M : Mem} {K : KK}
theorem run_k0 (hc : cd m pc = (ins, n, x, y, z)) (hk : knd ins x = 0) : run (f + 1) d m pc ls st M K = (match stp ins n x y z pc ls st M K with
    | none => none
    | some (pc', ls', st', M', K') => run f d m pc' ls' st' M' K') := by
  rw [run, hc]
  simp only [hk]
  rfl
theorem run_k1z (hc : cd m pc = (ins, n, x, y, z)) (hk : knd ins x = 1) : run (f + 1) 0 m pc ls st M K = none := by
  rw [run, hc]
  simp only [hk]
theorem run_k1 (hc : cd m pc = (ins, n, x, y, z)) (hk : knd ins x = 1) : run (f + 1) (d + 1) m pc ls st M K = (if st.length < y ∨ okc x (st.take y).reverse (st.drop y) K.1 = false then none else
          match run f d x 0 (mkL x (st.take y).reverse) [] M K with
          | none => none
          | some (.inl v, M1, K1) => run f (d + 1) m (pc + 3) ls (v.toList ++ st.drop y) M1 K1
          | some (.inr e, M1, K1) => if thT.getD x false = false then none else match hnd m pc e with
            | some h => run f (d + 1) m h ls [vU] M1 K1
            | none => if (hT.getD m []).isEmpty then some (.inr e, M1, K1) else none) := by
  rw [run, hc]
  simp only [hk]
  rfl
theorem run_k2 (hc : cd m pc = (ins, n, x, y, z)) (hk : knd ins x = 2) : run (f + 1) d m pc ls st M K = (match rtv ins x st with
    | none => none
    | some v => some (.inl v, M, K)) := by
  rw [run, hc]
  simp only [hk]
  rfl
theorem run_k3 {k : Nat} (hc : cd m pc = (ins, n, x, y, z)) (hk : knd ins x = k + 3) : run (f + 1) d m pc ls st M K = (if st.length ≤ 4 then some (.inr (x - 900), M, (K.1, K.2.1 + 1, K.2.2 + 6)) else none) := by
  rw [run, hc]
  simp only [hk]
end EQ
theorem run_fuel : ∀ (f : Nat) {d m pc : Nat} {ls st : List PV} {M : Mem} {K : KK} {q : RR × Mem × KK}, run f d m pc ls st M K = some q → run (f + 1) d m pc ls st M K = some q := by
  intro f
  induction f with
  | zero => intro d m pc ls st M K q h; simp [run] at h
  | succ f ih =>
    intro d m pc ls st M K q h
    rcases hc : cd m pc with ⟨ins, n, x, y, z⟩
    rcases hk : knd ins x with _ | _ | _ | k
    · rw [run_k0 hc hk] at h ⊢
      split at h
      · cases h
      · rename_i hs
        exact ih h
    · cases d with
      | zero => rw [run_k1z hc hk] at h; cases h
      | succ d' =>
      rw [run_k1 hc hk] at h ⊢
      split at h
      · cases h
      · rename_i hcc
        rw [if_neg hcc]
        split at h
        · cases h
        · rename_i hr
          rw [ih hr]
          exact ih h
        · rename_i hr
          rw [ih hr]
          dsimp only
          split at h
          · cases h
          · rename_i ht
            rw [if_neg ht]
            split at h
            · exact ih h
            · exact h
    · rw [run_k2 hc hk] at h ⊢
      exact h
    · rw [run_k3 hc hk] at h ⊢
      exact h
theorem run_fuels {f g : Nat} (hg : f ≤ g) {d m pc : Nat} {ls st : List PV} {M : Mem} {K : KK} {q : RR × Mem × KK} (h : run f d m pc ls st M K = some q) : run g d m pc ls st M K = some q := by
  obtain ⟨j, rfl⟩ : ∃ j, g = f + j := ⟨g - f, by omega⟩
  clear hg
  induction j with
  | zero => exact h
  | succ j ih => exact run_fuel _ ih
theorem run_up : ∀ (f : Nat) {d m pc : Nat} {ls st : List PV} {M : Mem} {K : KK} {q : RR × Mem × KK}, run f d m pc ls st M K = some q → run f (d + 1) m pc ls st M K = some q := by
  intro f
  induction f with
  | zero => intro d m pc ls st M K q h; simp [run] at h
  | succ f ih =>
    intro d m pc ls st M K q h
    rcases hc : cd m pc with ⟨ins, n, x, y, z⟩
    rcases hk : knd ins x with _ | _ | _ | k
    · rw [run_k0 hc hk] at h ⊢
      split at h
      · cases h
      · rename_i hs
        exact ih h
    · cases d with
      | zero => rw [run_k1z hc hk] at h; cases h
      | succ d' =>
      rw [run_k1 hc hk] at h ⊢
      split at h
      · cases h
      · rename_i hcc
        rw [if_neg hcc]
        split at h
        · cases h
        · rename_i hr
          rw [ih hr]
          exact ih h
        · rename_i hr
          rw [ih hr]
          dsimp only
          split at h
          · cases h
          · rename_i ht
            rw [if_neg ht]
            split at h
            · exact ih h
            · exact h
    · rw [run_k2 hc hk] at h ⊢
      exact h
    · rw [run_k3 hc hk] at h ⊢
      exact h
section CA
variable {d m pc pc' : Nat} {x y : Nat} {z : Int} {ls st : List PV} {M : Mem} {K : KK} {Q Q' : RR → Mem → KK → Prop}
theorem Wp.up (h : Wp d m pc ls st M K Q) : Wp (d + 1) m pc ls st M K Q := by
  obtain ⟨f, r, M', K', h, hq⟩ := h
  exact ⟨f, r, M', K', run_up f h, hq⟩
theorem Wp.ups {d' : Nat} (hd : d ≤ d') (h : Wp d m pc ls st M K Q) : Wp d' m pc ls st M K Q := by
  obtain ⟨j, rfl⟩ : ∃ j, d' = d + j := ⟨d' - d, by omega⟩
  clear hd
  induction j with
  | zero => exact h
  | succ j ih => exact ih.up
theorem Wp.imp (h : Wp d m pc ls st M K Q) (hq : ∀ r M' K', Q r M' K' → Q' r M' K') : Wp d m pc ls st M K Q' := by
  obtain ⟨f, r, M', K', h, h1⟩ := h
  exact ⟨f, r, M', K', h, hq _ _ _ h1⟩
/-- what a caller does with a callee's end -/
def Bk (d m pc pc' x : Nat) (ls st : List PV) (Q : RR → Mem → KK → Prop) : RR → Mem → KK → Prop := fun r M1 K1 => match r with
  | .inl v => Wp (d + 1) m pc' ls (v.toList ++ st) M1 K1 Q
  | .inr e => thT.getD x false = true ∧ match hnd m pc e with
    | some h => Wp (d + 1) m h ls [vU] M1 K1 Q
    | none => (hT.getD m []).isEmpty = true ∧ Q (.inr e) M1 K1
theorem r_call {ins : Instr} (c : Ta m pc pc' ins x y z) (hn : pc' = pc + 3) (hk : knd ins x = 1) (hy : y ≤ st.length) (ho : okc x (st.take y).reverse (st.drop y) K.1 = true) (k : Wm d x (st.take y).reverse M K (Bk d m pc pc' x ls (st.drop y) Q)) : Wp (d + 1) m pc ls st M K Q := by
  obtain ⟨n, hc, -⟩ := c
  subst hn
  obtain ⟨f, r, M1, K1, h, hq⟩ := k
  have hcond : ¬ (st.length < y ∨ okc x (st.take y).reverse (st.drop y) K.1 = false) := by
    rintro (h9 | h9)
    · omega
    · rw [ho] at h9; cases h9
  unfold Bk at hq
  cases r with
  | inl v =>
    obtain ⟨g, r2, M2, K2, h2, hq2⟩ := hq
    refine ⟨(f + g) + 1, r2, M2, K2, ?_, hq2⟩
    rw [run_k1 hc hk, if_neg hcond, run_fuels (g := f + g) (by omega) h]
    exact run_fuels (by omega) h2
  | inr e =>
    obtain ⟨ht, hq⟩ := hq
    split at hq
    · rename_i hh
      obtain ⟨g, r2, M2, K2, h2, hq2⟩ := hq
      refine ⟨(f + g) + 1, r2, M2, K2, ?_, hq2⟩
      rw [run_k1 hc hk, if_neg hcond, run_fuels (g := f + g) (by omega) h]
      dsimp only
      rw [if_neg (by rw [ht]; decide), hh]
      exact run_fuels (by omega) h2
    · rename_i hh
      obtain ⟨hem, hq⟩ := hq
      refine ⟨f + 1, _, _, _, ?_, hq⟩
      rw [run_k1 hc hk, if_neg hcond, h]
      dsimp only
      rw [if_neg (by rw [ht]; decide), hh]
      dsimp only
      rw [if_pos hem]
/-- calls of the library -/
theorem r_min {a b : Int} (c : Ta m pc pc' (.invokestatic y) 1001 x z) (h : st.length ≤ 4) (k : Wp d m pc' ls (vI (if b < a then b else a) :: st) M K Q) : Wp d m pc ls (vI b :: vI a :: st) M K Q := by
  obtain ⟨n, hc, rfl⟩ := c; exact Wp.s hc rfl (by simp only [stp, xcall]; rw [if_pos h]) k
theorem r_max {a b : Int} (c : Ta m pc pc' (.invokestatic y) 1002 x z) (h : st.length ≤ 4) (k : Wp d m pc' ls (vI (if a < b then b else a) :: st) M K Q) : Wp d m pc ls (vI b :: vI a :: st) M K Q := by
  obtain ⟨n, hc, rfl⟩ := c; exact Wp.s hc rfl (by simp only [stp, xcall]; rw [if_pos h]) k
theorem r_abs {a : Int} (c : Ta m pc pc' (.invokestatic y) 1003 x z) (h : st.length ≤ 4) (k : Wp d m pc' ls (vI (if 0 ≤ a then a else w32 (-a)) :: st) M K Q) : Wp d m pc ls (vI a :: st) M K Q := by
  obtain ⟨n, hc, rfl⟩ := c; exact Wp.s hc rfl (by simp only [stp, xcall]; rw [if_pos h]) k
theorem r_obj {i a : Nat} (c : Ta m pc pc' (.invokespecial i) 1000 y z) (h : st.length ≤ 4) (k : Wp d m pc' ls st M K Q) : Wp d m pc ls (vR a :: st) M K Q := by
  obtain ⟨n, hc, rfl⟩ := c; exact Wp.s hc rfl (by simp only [stp, xcall]; rw [if_pos h]) k
theorem r_slen {i a : Nat} (c : Ta m pc pc' (.invokevirtual i) 1004 y z) (h : (2 ≤ a ∧ a < 27) ∧ st.length ≤ 4) (k : Wp d m pc' ls (vI ((stT.getD (a - 2) []).length) :: st) M K Q) : Wp d m pc ls (vR a :: st) M K Q := by
  obtain ⟨n, hc, rfl⟩ := c; exact Wp.s hc rfl (by simp only [stp, xcall]; rw [if_pos h]) k
theorem r_schr {i a : Nat} {j : Int} (c : Ta m pc pc' (.invokevirtual i) 1005 y z) (h : (2 ≤ a ∧ a < 27) ∧ (0 ≤ j ∧ j < ((stT.getD (a - 2) []).length : Int)) ∧ st.length ≤ 4) (k : Wp d m pc' ls (vI ((stT.getD (a - 2) []).getD j.toNat 0) :: st) M K Q) : Wp d m pc ls (vI j :: vR a :: st) M K Q := by
  obtain ⟨n, hc, rfl⟩ := c; exact Wp.s hc rfl (by simp only [stp, xcall]; rw [if_pos h]) k
theorem r_cpy {i s t : Nat} {cc dp sp : Int} (c : Ta m pc pc' (.invokestatic i) 1006 y z) (h : isO K.1 s 20 = true ∧ isO K.1 t 20 = true ∧ 0 ≤ sp ∧ 0 ≤ dp ∧ 0 ≤ cc ∧ sp + cc ≤ (ln s : Int) ∧ dp + cc ≤ (ln t : Int) ∧ st.length ≤ 4) (k : Wp d m pc' ls st (mcpy M s sp t dp cc) K Q) : Wp d m pc ls (vI cc :: vI dp :: vR t :: vI sp :: vR s :: st) M K Q := by
  obtain ⟨n, hc, rfl⟩ := c; exact Wp.s hc rfl (by simp only [stp, xcall]; rw [if_pos h]) k
end CA
