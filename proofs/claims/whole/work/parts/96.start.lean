/-! a run that never looks at the script: other scripts change nothing -/
def bl (X M : Mem) : Mem := fun a k => if a < 32 then X a k else M a k
theorem bl_r {X M : Mem} {a : Nat} (h : 32 ≤ a) : bl X M a = M a := by funext k; unfold bl; rw [if_neg (by omega)]
theorem bl_s {X M : Mem} {a k : Nat} {v : Int} (h : 32 ≤ a) : mset (bl X M) a k v = bl X (mset M a k v) := by
  funext b j
  by_cases hb : b < 32
  · simp only [mset, bl, if_pos hb]; rw [if_neg (by omega)]
  · simp only [mset, bl, if_neg hb]
theorem bl_w {X M : Mem} {a n : Nat} (h : 32 ≤ a) : mrow (bl X M) a n = bl X (mrow M a n) := by
  funext b j
  by_cases hb : b < 32
  · simp only [mrow, bl, if_pos hb]; rw [if_neg (by omega)]
  · simp only [mrow, bl, if_neg hb]
theorem bl_c {X M : Mem} {s d : Nat} {sp dp n : Int} (hs : 32 ≤ s) (hd : 32 ≤ d) : mcpy (bl X M) s sp d dp n = bl X (mcpy M s sp d dp n) := by
  funext b j
  by_cases hb : b < 32
  · simp only [mcpy, bl, if_pos hb]; rw [if_neg (by omega)]
  · simp only [mcpy, bl, if_neg hb, if_neg (show ¬ s < 32 by omega)]
def noX (ins : Instr) (x : Nat) : Bool := match ins with
  | .iaload => !Nat.beq x 1
  | .arraylength => !Nat.beq x 1
  | .getfield _ => true
  | _ => true
abbrev blq (X : Mem) (q : PS) : PS := (q.1, q.2.1, q.2.2.1, bl X q.2.2.2.1, q.2.2.2.2)
theorem stp_bl {X : Mem} {ins : Instr} {n x y pc : Nat} {z : Int} {ls st : List PV} {M : Mem} {K : KK} {q : PS} (hx : noX ins x = true) (h : stp ins n x y z pc ls st M K = some q) (h32 : 32 ≤ K.1) : stp ins n x y z pc ls st (bl X M) K = some (blq X q) := by
  have hO : ∀ {a t : Nat}, isO K.1 a t = true → 32 ≤ a := fun {a t} h9 => by
    unfold isO at h9
    simp only [Bool.and_eq_true] at h9
    exact Nat.le_of_ble_eq_true h9.1
  have hr : ∀ {a t : Nat}, isO K.1 a t = true → bl X M a = M a := fun h9 => bl_r (hO h9)
  have hs : ∀ {a t k : Nat} {v : Int}, isO K.1 a t = true → mset (bl X M) a k v = bl X (mset M a k v) := fun h9 => bl_s (hO h9)
  cases ins
  all_goals (simp only [stp, p1, p2, q2, pA, pAI, ld, sv, xcall] at h ⊢)
  all_goals (try (cases h; done))
  all_goals ((repeat' split at h) <;> first | (cases h; done) | skip)
  all_goals (cases h)
  all_goals first | rfl | skip
  all_goals first | (simp_all only [if_true, if_false, and_self, true_and, and_true]; done) | skip
  all_goals first | (rename_i h9; rw [if_pos h9]; first | rfl | (rw [hs h9.1]; done) | (rw [hr h9.1]; done) | (simp only [hs h9.1]; done)) | skip
  all_goals first
    | (exfalso; rename_i h8 h9; subst h8; simp [noX] at hx; done)
    | (rename_i h9; rw [hr h9.1.2, if_pos h9]; done)
    | (rename_i h9; rw [hr h9.1.2, if_pos h9]; rfl)
    | (rename_i h9; rw [if_pos h9, hs h9.1.2.2]; done)
    | (rename_i h9; rw [if_pos h9, hs h9.1.2.2]; rfl)
    | (rename_i h8 h9; rw [if_pos h8, if_pos h9, hr h8]; done)
    | (rename_i h8 h9; rw [if_pos h8, if_pos h9, hr h8]; rfl)
    | (rename_i h8 h7 h9; rw [if_pos h8, if_neg h7, if_pos h9, hr h8]; done)
    | (rename_i h8 h7 h9; rw [if_pos h8, if_neg h7, if_pos h9, hr h8]; rfl)
    | (rename_i h8 h7 h6 h9; rw [hr h8, if_pos h8, if_neg h7, if_neg h6, if_pos h9]; done)
    | (rename_i h8 h7 h6 h9; rw [hr h8, if_pos h8, if_neg h7, if_neg h6, if_pos h9]; rfl)
    | (rename_i h8 h9; rw [if_neg h8, if_pos h9, hr h9.1]; done)
    | (rename_i h8 h9; rw [if_neg h8, if_pos h9, hr h9.1]; rfl)
    | (rename_i h9; rw [if_neg h9]; done)
    | (rename_i h9; rw [if_neg h9]; rfl)
    | (rename_i h9; rw [if_pos h9, bl_c (hO h9.1) (hO h9.2.1)]; done)
    | (rename_i h9; rw [if_pos h9, bl_c (hO h9.1) (hO h9.2.1)]; rfl)
    | (rename_i h9; rw [if_pos h9, bl_w h32]; done)
    | (rename_i h9; rw [if_pos h9, bl_w h32]; rfl)
/-- the machine that stops where the script is looked at -/
noncomputable def run2 : Nat → Nat → Nat → Nat → List PV → List PV → Mem → KK → Option (RR × Mem × KK)
  | 0, _, _, _, _, _, _, _ => none
  | f + 1, d, m, pc, ls, st, M, K => match cd m pc with
    | (ins, n, x, y, z) => match knd ins x with
      | 0 => if noX ins x = true then (match stp ins n x y z pc ls st M K with
        | none => none
        | some (pc', ls', st', M', K') => run2 f d m pc' ls' st' M' K') else none
      | 1 => match d with
        | 0 => none
        | d' + 1 => if st.length < y ∨ okc x (st.take y).reverse (st.drop y) K.1 = false then none else
          match run2 f d' x 0 (mkL x (st.take y).reverse) [] M K with
          | none => none
          | some (.inl v, M1, K1) => run2 f (d' + 1) m (pc + 3) ls (v.toList ++ st.drop y) M1 K1
          | some (.inr _, _, _) => none
      | 2 => match rtv ins x st with
        | none => none
        | some v => some (.inl v, M, K)
      | _ => none
theorem run2_run {X : Mem} : ∀ (f : Nat) {d m pc : Nat} {ls st : List PV} {M : Mem} {K : KK} {r : RR} {M' : Mem} {K' : KK}, run2 f d m pc ls st M K = some (r, M', K') → 32 ≤ K.1 → 32 ≤ K'.1 ∧ run f d m pc ls st (bl X M) K = some (r, bl X M', K') := by
  intro f
  induction f with
  | zero => intro d m pc ls st M K r M' K' h _; simp [run2] at h
  | succ f ih =>
    intro d m pc ls st M K r M' K' h h32
    unfold run2 at h
    split at h
    rename_i ins n x y z hcd
    split at h
    · rename_i hk
      rw [run_k0 hcd hk]
      split at h
      · rename_i hx
        split at h
        · cases h
        · rename_i pc' ls' st' M1 K1 hs
          rw [stp_bl hx hs h32]
          obtain ⟨a1, -⟩ := stp_mono hs h32
          exact ih h (Nat.le_trans h32 a1)
      · cases h
    · rename_i hk
      split at h
      · cases h
      · rw [run_k1 hcd hk]
        split at h
        · cases h
        · rename_i hc
          rw [if_neg hc]
          split at h
          · cases h
          · rename_i v M1 K1 hr
            obtain ⟨a1, a2⟩ := ih hr h32
            rw [a2]
            exact ih h a1
          · cases h
    · rename_i hk
      rw [run_k2 hcd hk]
      split at h
      · cases h
      · rename_i v hv
        cases h
        rw [hv]
        exact ⟨h32, rfl⟩
    · cases h
