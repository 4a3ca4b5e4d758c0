/-! odds: ways day by day are the recursion -/
theorem sumF_cg {f g : Nat → Int} : ∀ k, (∀ i, i < k → f i = g i) → sumF f k = sumF g k := by
  intro k
  induction k with
  | zero => intro _; rfl
  | succ k ih => intro h; simp only [sumF]; rw [ih (fun i hi => h i (by omega)), h k (by omega)]
theorem sumF_0 : ∀ k, sumF (fun _ => 0) k = 0 := by
  intro k
  induction k with
  | zero => rfl
  | succ k ih => simp only [sumF, ih]; rfl
def updW (n : Nat → Int) (t : Nat) (v : Int) : Nat → Int := fun j => if j = t then n j + v else n j
theorem sum_updW {n F : Nat → Int} {t : Nat} {v : Int} : ∀ k, t < k → sumF (fun j => updW n t v j * F j) k = sumF (fun j => n j * F j) k + v * F t := by
  intro k
  induction k with
  | zero => intro h; omega
  | succ k ih =>
    intro h
    simp only [sumF]
    by_cases htk : t = k
    · subst htk
      rw [sumF_cg (f := fun j => updW n t v j * F j) (g := fun j => n j * F j) t (fun i hi => by unfold updW; rw [if_neg (by omega)])]
      unfold updW
      rw [if_pos rfl, Int.add_mul]
      omega
    · rw [ih (by omega)]
      unfold updW
      rw [if_neg (fun h => htk h.symm)]
      omega
theorem updW_nn {n : Nat → Int} {t : Nat} {v : Int} (hn : ∀ j, 0 ≤ n j) (hv : 0 ≤ v) : ∀ j, 0 ≤ updW n t v j := by
  intro j; have := hn j; unfold updW; split <;> omega
/-- a day: ways behind it, greys below i done -/
def dayW (W : Nat → Int) (Tr T0 : Nat → Nat) (q : Int) : Nat → Nat → Int
  | 0 => fun _ => 0
  | i + 1 => if 0 < W i then updW (updW (dayW W Tr T0 q i) (Tr i) (W i * q)) (T0 i) (W i * (16 - q)) else dayW W Tr T0 q i
section DW
variable {W F : Nat → Int} {Tr T0 : Nat → Nat} {q : Int}
theorem dayW_nn (hq : 0 ≤ q ∧ q ≤ 16) : ∀ i j, 0 ≤ dayW W Tr T0 q i j := by
  intro i
  induction i with
  | zero => intro j; exact Int.le_refl 0
  | succ i ih =>
    simp only [dayW]
    split
    · rename_i h
      exact updW_nn (updW_nn ih (Int.mul_nonneg (by omega) hq.1)) (Int.mul_nonneg (by omega) (by omega))
    · exact ih
theorem day_phi {N : Nat} (hW : ∀ i, 0 ≤ W i) (hr : ∀ i, i < N → Tr i < N) (h0 : ∀ i, i < N → T0 i < N) : ∀ i, i ≤ N → sumF (fun j => dayW W Tr T0 q i j * F j) N = sumF (fun g => W g * (q * F (Tr g) + (16 - q) * F (T0 g))) i := by
  intro i
  induction i with
  | zero =>
    intro _
    rw [sumF_cg (g := fun _ => 0) N (fun i _ => by simp [dayW]), sumF_0]; rfl
  | succ i ih =>
    intro hi
    have ih := ih (by omega)
    simp only [sumF, dayW]
    split
    · rw [sum_updW N (h0 i (by omega)), sum_updW N (hr i (by omega)), ih, Int.mul_add, ← Int.mul_assoc, ← Int.mul_assoc]
      omega
    · have : W i = 0 := by have := hW i; omega
      rw [ih, this, Int.zero_mul, Int.add_zero]
end DW
section WY
variable (c : Mem) (L : LC) (p : Nat) (x q r : Int)
/-- the grey behind a day of a strip that lies (x is no -1), or does not -/
def nxG (rain wet milk dy : Int) (g : Nat) : Nat := if x = -1 then g else (oddT c L p x rain wet milk dy g).toNat
def waysN (dy wet milk : Int) (g0 : Nat) : Nat → Nat → Int
  | 0 => fun g => if g = g0 then 1 else 0
  | i + 1 => dayW (waysN dy wet milk g0 i) (nxG c L p x r (if i = 0 then wet else 0) (if i = 0 then milk else 0) (dy + (i : Int))) (nxG c L p x 0 (if i = 0 then wet else 0) (if i = 0 then milk else 0) (dy + (i : Int))) q 100
end WY
section WZ
variable {c : Mem} {L : LC} {p : Nat} {x q r : Int}
theorem nxG_lt {rain wet milk dy : Int} {g : Nat} (hg : g < 100) : nxG c L p x rain wet milk dy g < 100 := by
  unfold nxG
  split
  · exact hg
  · have := oddT_rg (c := c) (L := L) (p := p) (x := x) (rain := rain) (wet := wet) (milk := milk) (dy := dy) (g := (g : Int)) (by omega)
    omega
theorem waysN_nn (hq : 0 ≤ q ∧ q ≤ 16) {dy wet milk : Int} {g0 : Nat} : ∀ i j, 0 ≤ waysN c L p x q r dy wet milk g0 i j := by
  intro i
  cases i with
  | zero => intro j; simp only [waysN]; split <;> omega
  | succ i => exact dayW_nn hq 100
theorem sum_one {F : Nat → Int} {g0 : Nat} : ∀ k, sumF (fun g => (if g = g0 then 1 else 0) * F g) k = if g0 < k then F g0 else 0 := by
  intro k
  induction k with
  | zero => simp [sumF]
  | succ k ih =>
    simp only [sumF, ih]
    by_cases h : k = g0
    · subst h; simp
    · rw [if_neg h]
      by_cases h2 : g0 < k
      · rw [if_pos h2, if_pos (by omega)]; omega
      · rw [if_neg h2, if_neg (by omega)]; omega
/-- what is kept from day to day -/
theorem ways_phi (hq : 0 ≤ q ∧ q ≤ 16) (hx : x ≠ -1) {dy wet milk : Int} {g0 n : Nat} (hg : g0 < 100) : ∀ i, i ≤ n → sumF (fun g => waysN c L p x q r dy wet milk g0 i g * oddF c L p x q r (n - i) (dy + (i : Int)) (if i = 0 then wet else 0) (if i = 0 then milk else 0) (g : Int)) 100 = oddF c L p x q r n dy wet milk (g0 : Int) := by
  intro i
  induction i with
  | zero =>
    intro _
    simp only [waysN]
    rw [sum_one 100, if_pos hg]
    simp
  | succ i ih =>
    intro hi
    rw [← ih (by omega)]
    simp only [waysN]
    rw [day_phi (F := fun g => oddF c L p x q r (n - (i + 1)) (dy + ((i + 1 : Nat) : Int)) (if i + 1 = 0 then wet else 0) (if i + 1 = 0 then milk else 0) (g : Int)) (waysN_nn hq i) (fun g hg => nxG_lt hg) (fun g hg => nxG_lt hg) 100 (Nat.le_refl _)]
    refine sumF_cg 100 (fun g hg => ?_)
    rw [show n - i = (n - (i + 1)) + 1 by omega]
    simp only [oddF]
    rw [if_neg (show ¬ i + 1 = 0 by omega), if_neg (show ¬ i + 1 = 0 by omega)]
    have e : ∀ rn, ((nxG c L p x rn (if i = 0 then wet else 0) (if i = 0 then milk else 0) (dy + (i : Int)) g : Nat) : Int) = oddT c L p x rn (if i = 0 then wet else 0) (if i = 0 then milk else 0) (dy + (i : Int)) (g : Int) := by
      intro rn
      have := oddT_rg (c := c) (L := L) (p := p) (x := x) (rain := rn) (wet := if i = 0 then wet else 0) (milk := if i = 0 then milk else 0) (dy := dy + (i : Int)) (g := (g : Int)) (by omega)
      unfold nxG; rw [if_neg hx]; omega
    rw [e, e, show dy + ((i + 1 : Nat) : Int) = dy + (i : Int) + 1 by omega]
theorem ways_lies (hq : 0 ≤ q ∧ q ≤ 16) (hx : x ≠ -1) {dy wet milk : Int} {g0 n : Nat} (hg : g0 < 100) : waysN c L p x q r dy wet milk g0 n 0 = oddF c L p x q r n dy wet milk (g0 : Int) := by
  rw [← ways_phi hq hx hg n (Nat.le_refl _)]
  rw [sumF_cg (g := fun g => (if g = 0 then 1 else 0) * waysN c L p x q r dy wet milk g0 n g) 100 (fun g hg => ?_), sum_one 100, if_pos (by omega)]
  rw [show n - n = 0 by omega]
  simp only [oddF]
  by_cases h : g = 0
  · subst h; simp
  · rw [if_neg (show ¬ ((g : Nat) : Int) = 0 by omega), if_neg h]; simp
/-- all ways of i days are 16 to the i -/
theorem ways_sum (hq : 0 ≤ q ∧ q ≤ 16) {dy wet milk : Int} {g0 : Nat} (hg : g0 < 100) : ∀ i, sumF (fun g => waysN c L p x q r dy wet milk g0 i g) 100 = ((16 ^ i : Nat) : Int) := by
  intro i
  induction i with
  | zero =>
    simp only [waysN]
    rw [sumF_cg (g := fun g => (if g = g0 then 1 else 0) * 1) 100 (fun g _ => by simp), sum_one (F := fun _ => 1) 100, if_pos hg]; rfl
  | succ i ih =>
    simp only [waysN]
    have h := day_phi (F := fun _ => 1) (q := q) (waysN_nn (c := c) (L := L) (p := p) (x := x) (r := r) (dy := dy) (wet := wet) (milk := milk) (g0 := g0) hq i) (fun g hg => nxG_lt (c := c) (L := L) (p := p) (x := x) (rain := r) (wet := if i = 0 then wet else 0) (milk := if i = 0 then milk else 0) (dy := dy + (i : Int)) hg) (fun g hg => nxG_lt (c := c) (L := L) (p := p) (x := x) (rain := 0) (wet := if i = 0 then wet else 0) (milk := if i = 0 then milk else 0) (dy := dy + (i : Int)) hg) 100 (Nat.le_refl _)
    rw [sumF_cg (g := fun j => dayW (waysN c L p x q r dy wet milk g0 i) (nxG c L p x r (if i = 0 then wet else 0) (if i = 0 then milk else 0) (dy + (i : Int))) (nxG c L p x 0 (if i = 0 then wet else 0) (if i = 0 then milk else 0) (dy + (i : Int))) q 100 j * 1) 100 (fun j _ => (Int.mul_one _).symm), h]
    have e : ∀ k, sumF (fun g => waysN c L p x q r dy wet milk g0 i g * (q * 1 + (16 - q) * 1)) k = 16 * sumF (fun g => waysN c L p x q r dy wet milk g0 i g) k := by
      intro k
      induction k with
      | zero => rfl
      | succ k ih => simp only [sumF]; rw [ih]; rw [show q * 1 + (16 - q) * 1 = 16 by omega]; omega
    rw [e, ih, Nat.pow_succ]; omega
theorem sumF_le {f : Nat → Int} (h : ∀ i, 0 ≤ f i) : ∀ k j, j < k → f j ≤ sumF f k := by
  intro k
  induction k with
  | zero => intro j hj; omega
  | succ k ih =>
    intro j hj
    simp only [sumF]
    have hk := h k
    have h0 : 0 ≤ sumF f k := by
      clear ih hj
      induction k with
      | zero => exact Int.le_refl 0
      | succ k ih => simp only [sumF]; have := h k; have := ih (h k); omega
    by_cases hjk : j = k
    · subst hjk; omega
    · have := ih j (by omega); omega
theorem ways_le (hq : 0 ≤ q ∧ q ≤ 16) {dy wet milk : Int} {g0 : Nat} (hg : g0 < 100) (i j : Nat) (hj : j < 100) : waysN c L p x q r dy wet milk g0 i j ≤ ((16 ^ i : Nat) : Int) := by
  rw [← ways_sum hq hg i]
  exact sumF_le (waysN_nn hq i) 100 j hj
end WZ
