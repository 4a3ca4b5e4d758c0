/-! odds: the model's recursion -/
theorem w64_id {z : Int} (h : -9223372036854775808 ≤ z ∧ z < 9223372036854775808) : w64 z = z := by
  unfold w64
  rw [Int.bmod_eq_of_le] <;> omega
section OD
variable (c : Mem) (L : LC) (p : Nat) (x q r : Int)
/-- grey when the day is over -/
def oddT (rain wet milk dy g : Int) : Int := max 0 (g - whB c L p x g rain wet milk dy)
/-- ways, of 16 to the k, in which the grey is gone k days on -/
def oddF : Nat → Int → Int → Int → Int → Int
  | 0, _, _, _, g => if g = 0 then 1 else 0
  | k + 1, dy, wet, milk, g => q * oddF k (dy + 1) 0 0 (oddT c L p x r wet milk dy g) + (16 - q) * oddF k (dy + 1) 0 0 (oddT c L p x 0 wet milk dy g)
end OD
section OE
variable {c : Mem} {L : LC} {p : Nat} {x q r : Int}
theorem oddF_rg (hq : 0 ≤ q ∧ q ≤ 16) : ∀ k dy wet milk g, 0 ≤ oddF c L p x q r k dy wet milk g ∧ oddF c L p x q r k dy wet milk g ≤ ((16 ^ k : Nat) : Int) := by
  intro k
  induction k with
  | zero => intro dy wet milk g; simp only [oddF]; split <;> simp
  | succ k ih =>
    intro dy wet milk g
    simp only [oddF]
    obtain ⟨a1, a2⟩ := ih (dy + 1) 0 0 (oddT c L p x r wet milk dy g)
    obtain ⟨b1, b2⟩ := ih (dy + 1) 0 0 (oddT c L p x 0 wet milk dy g)
    generalize oddF c L p x q r k (dy + 1) 0 0 (oddT c L p x r wet milk dy g) = u at a1 a2 ⊢
    generalize oddF c L p x q r k (dy + 1) 0 0 (oddT c L p x 0 wet milk dy g) = v at b1 b2 ⊢
    rw [Nat.pow_succ]
    generalize 16 ^ k = e at a2 b2 ⊢
    have h1 : q * u ≤ q * (e : Int) := Int.mul_le_mul_of_nonneg_left a2 hq.1
    have h2 : (16 - q) * v ≤ (16 - q) * (e : Int) := Int.mul_le_mul_of_nonneg_left b2 (by omega)
    have h3 : 0 ≤ q * u := Int.mul_nonneg hq.1 a1
    have h4 : 0 ≤ (16 - q) * v := Int.mul_nonneg (by omega) b1
    have h5 : q * (e : Int) + (16 - q) * (e : Int) = 16 * (e : Int) := by rw [← Int.add_mul]; congr 1; omega
    have h6 : ((e * 16 : Nat) : Int) = 16 * (e : Int) := by omega
    omega
theorem oddT_rg {rain wet milk dy g : Int} (hg : 0 ≤ g ∧ g ≤ 99) : 0 ≤ oddT c L p x rain wet milk dy g ∧ oddT c L p x rain wet milk dy g ≤ 99 := by
  have := whB_rg (c := c) (L := L) (p := p) (x := x) (g := g) (rain := rain) (wet := wet) (milk := milk) (dy := dy)
  unfold oddT; omega
theorem g226 (hq : 0 ≤ q ∧ q ≤ 16) (hx : 0 ≤ x ∧ x + c 2 p ≤ c 0 0) (hw : CW c) (hp : p < nSt c) : ∀ (k : Nat), k ≤ 8 → ∀ (d : Nat) (M : Mem) (K : KK) (Q : RR → Mem → KK → Prop) (dy wet milk g : Int), k + 4 ≤ d → K.1 = 923 → FX M → MCc M c → LM M L → M 888 p = x → (0 ≤ g ∧ g ≤ 99) → (0 ≤ dy ∧ dy + (k : Int) ≤ 2000) → (∀ M', FX M' → FrV M M' → Q (.inl (some (vL (oddF c L p x q r k dy wet milk g)))) M' K) → Wm d 226 [vR 440, vR 888, vI (p : Int), vI q, vI r, vI (k : Int), vI g, vI dy, vI wet, vI milk] M K Q := by
  have hp6 : p < 6 := by have := hw.n.1; omega
  have hl888 : ln 888 = 27 := by decide +kernel
  intro k
  induction k with
  | zero =>
    intro _ d M K Q dy wet milk g hd hK hX hc hL hx0 hg hdy kk
    obtain ⟨d, rfl⟩ : ∃ e, d = e + 4 := ⟨d - 4, by omega⟩
    simp only [oddF] at kk
    refine u226_0 hK hX ⟨fun h => absurd rfl h, fun _ => ⟨fun h => ?_, fun h => ?_⟩⟩
    · rw [if_neg h] at kk; exact kk M hX FrV.rf
    · rw [if_pos h] at kk; exact kk M hX FrV.rf
  | succ k ih =>
    intro hk d M K Q dy wet milk g hd hK hX hc hL hx0 hg hdy kk
    obtain ⟨d, rfl⟩ : ∃ e, d = e + 4 := ⟨d - 4, by omega⟩
    have eb : ∀ {z : Int}, 0 ≤ z ∧ z < 27 → 0 ≤ z ∧ z < (ln 888 : Int) := fun h => by rw [hl888]; exact h
    refine u226_0 hK hX ⟨fun _ => ⟨o888', eb (bx0 hp6), ?_⟩, fun h => absurd h (by omega)⟩
    rw [ix0 hp6, hx0]
    refine ⟨c, L, p, ⟨rfl, hc, hw, hL, hp, hx⟩, fun M1 x1 f1 => ⟨eb (bx0 hp6), ?_⟩⟩
    have e1 : M1 888 p = x := (f1 888 p (by decide) (by decide)).trans hx0
    rw [e1]
    refine ⟨c, L, p, ⟨rfl, hc.v hw f1, hw, hL.v f1, hp, hx⟩, fun M2 x2 f2 => ?_⟩
    have f02 := f1.tr f2
    have ek : w32 (((k + 1 : Nat) : Int) - 1) = (k : Int) := by rw [w32_id (by omega)]; omega
    have r1 := whB_rg (c := c) (L := L) (p := p) (x := x) (g := g) (rain := r) (wet := wet) (milk := milk) (dy := dy)
    have r2 := whB_rg (c := c) (L := L) (p := p) (x := x) (g := g) (rain := 0) (wet := wet) (milk := milk) (dy := dy)
    have eT : ∀ rn, (0 ≤ whB c L p x g rn wet milk dy ∧ whB c L p x g rn wet milk dy ≤ 99) → max 0 (w32 (g - whB c L p x g rn wet milk dy)) = oddT c L p x rn wet milk dy g := by
      intro rn hr; unfold oddT; rw [w32_id (by omega)]
    rw [ek, eT r r1, eT 0 r2, w32_id (z := dy + 1) (by omega)]
    have o1 := oddF_rg (c := c) (L := L) (p := p) (x := x) (r := r) hq k (dy + 1) 0 0 (oddT c L p x r wet milk dy g)
    have o2 := oddF_rg (c := c) (L := L) (p := p) (x := x) (r := r) hq k (dy + 1) 0 0 (oddT c L p x 0 wet milk dy g)
    have h16 : 16 ^ k ≤ 16 ^ 8 := Nat.pow_le_pow_right (by decide) (by omega)
    have h168 : 16 ^ 8 = 4294967296 := by decide
    refine ih (by omega) (d + 3) M2 K _ (dy + 1) 0 0 _ (by omega) hK x2 (hc.v hw f02) (hL.v f02) ((f02 888 p (by decide) (by decide)).trans hx0) (oddT_rg hg) (by omega) (fun M3 x3 f3 => Bk_v ?_)
    have f03 := f02.tr f3
    refine u226_96 hK x3 ?_
    rw [ek, w32_id (z := dy + 1) (by omega)]
    refine ih (by omega) (d + 3) M3 K _ (dy + 1) 0 0 _ (by omega) hK x3 (hc.v hw f03) (hL.v f03) ((f03 888 p (by decide) (by decide)).trans hx0) (oddT_rg hg) (by omega) (fun M4 x4 f4 => Bk_v ?_)
    refine u226_123 hK x4 ?_
    have h3 := oddF_rg (c := c) (L := L) (p := p) (x := x) (r := r) hq (k + 1) dy wet milk g
    simp only [oddF] at h3 kk
    generalize oddF c L p x q r k (dy + 1) 0 0 (oddT c L p x r wet milk dy g) = u at o1 h3 kk ⊢
    generalize oddF c L p x q r k (dy + 1) 0 0 (oddT c L p x 0 wet milk dy g) = v at o2 h3 kk ⊢
    have h17 : 16 ^ (k + 1) ≤ 16 ^ 9 := Nat.pow_le_pow_right (by decide) (by omega)
    have h169 : 16 ^ 9 = 68719476736 := by decide
    have p1 : 0 ≤ q * u := Int.mul_nonneg hq.1 o1.1
    have p2 : 0 ≤ (16 - q) * v := Int.mul_nonneg (by omega) o2.1
    rw [w32_id (z := 16 - q) (by omega), w64_id (z := q * u) (by omega), w64_id (z := (16 - q) * v) (by omega), w64_id (by omega)]
    exact kk M4 x4 (f03.tr f4)
end OE
