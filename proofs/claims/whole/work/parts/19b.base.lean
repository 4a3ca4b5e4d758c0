/-! base words: spans, states of a reading -/
abbrev ST : Type := Nat ⊕ (Int × Int)
abbrev BY : Type := Nat → Int
def spF (P : Int → Bool) (B : BY) : Nat → Nat → Nat
  | 0, p => p
  | k + 1, p => if P (B p) = true then spF P B k (p + 1) else p
/-- from p on as far as P holds, n at most -/
def sp (P : Int → Bool) (B : BY) (n p : Nat) : Nat := spF P B (n - p) p
theorem sp_go {P : Int → Bool} {B : BY} {n p : Nat} (h : p < n) (hp : P (B p) = true) : sp P B n p = sp P B n (p + 1) := by
  unfold sp
  obtain ⟨k, hk⟩ : ∃ k, n - p = k + 1 := ⟨n - p - 1, by omega⟩
  rw [hk, show n - (p + 1) = k from by omega]
  simp only [spF, hp, if_true]
theorem sp_no {P : Int → Bool} {B : BY} {n p : Nat} (hp : ¬ P (B p) = true) : sp P B n p = p := by
  unfold sp
  cases n - p with
  | zero => rfl
  | succ k => simp only [spF]; rw [if_neg hp]
theorem sp_end {P : Int → Bool} {B : BY} {n p : Nat} (h : n ≤ p) : sp P B n p = p := by
  unfold sp
  rw [show n - p = 0 from by omega]
  rfl
theorem sp_ind {P : Int → Bool} {B : BY} {n : Nat} {R : Nat → Prop} (h1 : ∀ p, p ≤ n → (p < n → ¬ P (B p) = true) → R p) (h2 : ∀ p, p < n → P (B p) = true → R (p + 1) → R p) : ∀ p, p ≤ n → R p := by
  intro p hp
  obtain ⟨k, hk⟩ : ∃ k, n - p = k := ⟨_, rfl⟩
  induction k generalizing p with
  | zero => exact h1 p hp (fun h => by omega)
  | succ k ih =>
    by_cases hq : P (B p) = true
    · exact h2 p (by omega) hq (ih (p + 1) (by omega) (by omega))
    · exact h1 p hp (fun _ => hq)
theorem sp_ge {P : Int → Bool} {B : BY} {n p : Nat} (hp : p ≤ n) : p ≤ sp P B n p ∧ sp P B n p ≤ n := by
  refine sp_ind (P := P) (B := B) (n := n) (R := fun p => p ≤ sp P B n p ∧ sp P B n p ≤ n) ?_ ?_ p hp
  · intro p hp h
    by_cases hh : p < n
    · rw [sp_no (h hh)]; omega
    · rw [sp_end (by omega)]; omega
  · intro p hp h ih
    rw [sp_go hp h]; omega
theorem sp_out {P : Int → Bool} {B : BY} {n p : Nat} (hp : p ≤ n) (h : sp P B n p < n) : ¬ P (B (sp P B n p)) = true := by
  revert h
  refine sp_ind (P := P) (B := B) (n := n) (R := fun p => sp P B n p < n → ¬ P (B (sp P B n p)) = true) ?_ ?_ p hp
  · intro p hp h hlt
    by_cases hh : p < n
    · rw [sp_no (h hh)]; exact h hh
    · rw [sp_end (by omega)] at hlt; omega
  · intro p hp h ih
    rw [sp_go hp h]; exact ih
theorem sp_in {P : Int → Bool} {B : BY} {n p : Nat} (hp : p ≤ n) : ∀ q, p ≤ q → q < sp P B n p → P (B q) = true := by
  refine sp_ind (P := P) (B := B) (n := n) (R := fun p => ∀ q, p ≤ q → q < sp P B n p → P (B q) = true) ?_ ?_ p hp
  · intro p hp h q h1 h2
    by_cases hh : p < n
    · rw [sp_no (h hh)] at h2; omega
    · rw [sp_end (by omega)] at h2; omega
  · intro p hp h ih q h1 h2
    rw [sp_go hp h] at h2
    by_cases hq : q = p
    · subst hq; exact h
    · exact ih q (by omega) h2
def isB (c : Int) : Bool := decide (c = 32)
def isD (c : Int) : Bool := decide (48 ≤ c) && decide (c ≤ 57)
def isS (c : Int) : Bool := decide (97 ≤ c) && decide (c ≤ 122)
theorem isB_iff {c : Int} : isB c = true ↔ c = 32 := by simp [isB]
theorem isD_iff {c : Int} : isD c = true ↔ 48 ≤ c ∧ c ≤ 57 := by simp [isD]
theorem isS_iff {c : Int} : isS c = true ↔ 97 ≤ c ∧ c ≤ 122 := by simp [isS]
abbrev sk (B : BY) (n p : Nat) : Nat := sp isB B n p
theorem sk_sk {B : BY} {n p : Nat} (hp : p ≤ n) : sk B n (sk B n p) = sk B n p := by
  by_cases h : sk B n p < n
  · exact sp_no (sp_out hp h)
  · exact sp_end (by omega)
/-- the sign that comes next; -1 at the end or behind a fault -/
def pk (B : BY) (n : Nat) : ST → Int
  | .inl p => if p < n then B p else -1
  | .inr _ => -1
def tFail (k : Int) (pl : Int) : ST → ST
  | .inl _ => .inr (k, pl)
  | .inr f => .inr f
/-- one sign more is taken, whatever it is -/
def tSkip (B : BY) (n : Nat) : ST → ST
  | .inl p => .inl (if p < n then sk B n (p + 1) else p)
  | .inr f => .inr f
def tSign (B : BY) (n : Nat) (c : Int) : ST → ST
  | .inl p => if p < n ∧ B p = c then .inl (sk B n (p + 1)) else .inr (1, p)
  | .inr f => .inr f
def nv (B : BY) (p : Nat) : Nat → Int
  | 0 => 0
  | k + 1 => min 100000 (10 * nv B p k + B (p + k) - 48)
theorem nv_bd {B : BY} {p k : Nat} (h : ∀ q, p ≤ q → q < p + k → isD (B q) = true) : 0 ≤ nv B p k ∧ nv B p k ≤ 100000 := by
  induction k with
  | zero => simp [nv]
  | succ k ih =>
    have := ih (fun q h1 h2 => h q h1 (by omega))
    have h9 := isD_iff.mp (h (p + k) (by omega) (by omega))
    simp only [nv]; omega
/-- a number: its value (lo where there is none), the state behind it -/
def tNum (B : BY) (n : Nat) (lo hi : Int) : ST → Int × ST
  | .inl p => if p < n ∧ isD (B p) = true then (let v := nv B p (sp isD B n p - p); if v < lo ∨ hi < v then (lo, .inr (2, p)) else (v, .inl (sk B n (sp isD B n p)))) else (lo, .inr (1, p))
  | .inr f => (lo, .inr f)
def tEnd (n : Nat) : ST → ST
  | .inl p => if p < n then .inr (1, p) else .inl p
  | .inr f => .inr f
/-- the state is in the text, at a sign that is no blank -/
def STw (B : BY) (n : Nat) : ST → Prop
  | .inl p => p ≤ n ∧ sk B n p = p
  | .inr f => f.1 ≠ 0
