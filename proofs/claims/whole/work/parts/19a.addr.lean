/-! fixed references, shapes -/
def fxU (a k : Nat) : Nat := match tg a with
  | 0 => if k < 5 then a + 1 + k else 0
  | 1 => if k < 4 then a + 1 + k else 0
  | 2 => if k < 3 then a + 1 + k else 0
  | 3 => if k < 4 then a + 1 + k else 0
  | 5 => if k < 4 then a + 1 + k else 0
  | 6 => if k < 1 then a + 1 else 0
  | 7 => if k < 4 then a + 1 + k else 0
  | 9 => if k < 1 then a + 1 else 0
  | 10 => if k < 1 then a + 1 else 0
  | 11 => ([33, 35, 40, 45, 50, 132, 133, 134, 139, 144, 147] : List Nat).getD k 0
  | 12 => ([0, 0, 0, 0, 0, 0, 0, 0, 0, 441, 442, 443, 444, 445, 446, 447, 448, 449, 450, 451, 458, 0, 0, 465, 626, 787, 796, 805, 806, 807, 0, 888, 889, 890, 907, 0, 0, 0, 0, 0, 0, 0, 911, 912, 913, 0, 914] : List Nat).getD k 0
  | 33 => if k < ln a then (if a = 132 then 179 + 87 * k else a + 1 + 5 * k) else 0
  | 36 => if k < ln a then 184 + 87 * k else 0
  | 40 => if k < ln a then a + 1 + k else 0
  | _ => 0
/-- nothing is fixed below the objects -/
def fxT (a k : Nat) : Nat := if a < 32 then 0 else fxU a k
def FX (M : Mem) : Prop := ∀ a k, a < 923 → 0 < fxT a k → M a k = ((fxT a k : Nat) : Int)
theorem FX.get {M : Mem} {a k b : Nat} (h : FX M) (ha : a < 923) (e : fxT a k = b) (h0 : 0 < b) : M a k = (b : Int) := by
  have := h a k ha (by omega)
  rw [e] at this
  exact this
theorem FX.set {M : Mem} {a k : Nat} {v : Int} (h : FX M) (hn : fxT a k = 0) : FX (mset M a k v) := by
  intro a' k' ha hk
  unfold mset
  rw [if_neg (by rintro ⟨rfl, rfl⟩; omega)]
  exact h a' k' ha hk
theorem FX.cpy {M : Mem} {s d : Nat} {sp dp n : Int} (h : FX M) (hn : ∀ k, fxT d k = 0) : FX (mcpy M s sp d dp n) := by
  intro a' k' ha hk
  unfold mcpy
  rw [if_neg (by rintro ⟨rfl, -⟩; have := hn k'; omega)]
  exact h a' k' ha hk
theorem FX.fr {M M' : Mem} (h : FX M) (hn : ∀ a k, 0 < fxT a k → M' a k = M a k) : FX M' := fun a k ha hk => (hn a k hk).trans (h a k ha hk)
theorem isO_d {nm a t : Nat} (h : isO nm a t = true) : 32 ≤ a ∧ a < nm ∧ tg a = t := by
  simp only [isO, Bool.and_eq_true] at h
  exact ⟨Nat.le_of_ble_eq_true h.1, Nat.le_of_ble_eq_true h.2.1, Nat.eq_of_beq_eq_true h.2.2⟩
theorem isO_m {a t : Nat} (h1 : 32 ≤ a) (h2 : a < 923) (h : tg a = t) : isO 923 a t = true := by
  subst h
  simp only [isO, Bool.and_eq_true]
  exact ⟨Nat.ble_eq_true_of_le h1, Nat.ble_eq_true_of_le h2, Nat.beq_refl _⟩
theorem oK {K : KK} {a t : Nat} (hK : K.1 = 923) (h : isO 923 a t = true) : isO K.1 a t = true := by rw [hK]; exact h
theorem bd {a n : Nat} {i : Int} (e : ln a = n) (h : 0 ≤ i ∧ i < (n : Int)) : 0 ≤ i ∧ i < (ln a : Int) := by rw [e]; exact h
theorem nfa {a : Nat} (h : isO 923 a 20 = true) (k : Nat) : fxT a k = 0 := by
  unfold fxT; rw [if_neg (Nat.not_lt.mpr (isO_d h).1)]; unfold fxU; rw [(isO_d h).2.2]; rfl
theorem nfc {a : Nat} (h : isO 923 a 21 = true) (k : Nat) : fxT a k = 0 := by
  unfold fxT; rw [if_neg (Nat.not_lt.mpr (isO_d h).1)]; unfold fxU; rw [(isO_d h).2.2]; rfl
theorem nfl {a : Nat} (h : isO 923 a 22 = true) (k : Nat) : fxT a k = 0 := by
  unfold fxT; rw [if_neg (Nat.not_lt.mpr (isO_d h).1)]; unfold fxU; rw [(isO_d h).2.2]; rfl
theorem mrw {a : Nat} (h : isO 923 a 40 = true) {K : KK} (hK : K.1 = 923) : Nat.ble 30 (tg a) = true ∧ isO K.1 a (tg a) = true := by
  rw [hK, (isO_d h).2.2]; exact ⟨rfl, h⟩
theorem mrw3 {a : Nat} (h : isO 923 a 33 = true) {K : KK} (hK : K.1 = 923) : Nat.ble 30 (tg a) = true ∧ isO K.1 a (tg a) = true := by
  rw [hK, (isO_d h).2.2]; exact ⟨rfl, h⟩
theorem mrw6 {a : Nat} (h : isO 923 a 36 = true) {K : KK} (hK : K.1 = 923) : Nat.ble 30 (tg a) = true ∧ isO K.1 a (tg a) = true := by
  rw [hK, (isO_d h).2.2]; exact ⟨rfl, h⟩
theorem mal {a t : Nat} (h : isO 923 a t = true) (ht : Nat.ble 20 t = true) {K : KK} (hK : K.1 = 923) : Nat.ble 20 (tg a) = true ∧ isO K.1 a (tg a) = true := by
  rw [hK, (isO_d h).2.2]; exact ⟨ht, h⟩
theorem ms_eq {M : Mem} {a k : Nat} {v : Int} : mset M a k v a k = v := by unfold mset; rw [if_pos ⟨rfl, rfl⟩]
theorem ms_na {M : Mem} {a k a' k' : Nat} {v : Int} (h : a' ≠ a) : mset M a k v a' k' = M a' k' := by unfold mset; rw [if_neg (fun q => h q.1)]
theorem ms_nk {M : Mem} {a k a' k' : Nat} {v : Int} (h : k' ≠ k) : mset M a k v a' k' = M a' k' := by unfold mset; rw [if_neg (fun q => h q.2)]
theorem mc_na {M : Mem} {s d a' k' : Nat} {sp dp n : Int} (h : a' ≠ d) : mcpy M s sp d dp n a' k' = M a' k' := by unfold mcpy; rw [if_neg (fun q => h q.1)]
theorem sh0_all : ∀ a, a < 923 → isO 923 a 0 = true → (isO 923 (a + 1) 20 = true ∧ ln (a + 1) = 12) ∧ (isO 923 (a + 2) 20 = true ∧ ln (a + 2) = 6) ∧ (isO 923 (a + 3) 20 = true ∧ ln (a + 3) = 6) ∧ (isO 923 (a + 4) 20 = true ∧ ln (a + 4) = 8) ∧ (isO 923 (a + 5) 20 = true ∧ ln (a + 5) = 7) ∧ (a = 153 ∨ a = 163) := by decide +kernel
theorem sh0 {a : Nat} (h : isO 923 a 0 = true) : (isO 923 (a + 1) 20 = true ∧ ln (a + 1) = 12) ∧ (isO 923 (a + 2) 20 = true ∧ ln (a + 2) = 6) ∧ (isO 923 (a + 3) 20 = true ∧ ln (a + 3) = 6) ∧ (isO 923 (a + 4) 20 = true ∧ ln (a + 4) = 8) ∧ (isO 923 (a + 5) 20 = true ∧ ln (a + 5) = 7) ∧ (a = 153 ∨ a = 163) := sh0_all a (isO_d h).2.1 h
theorem q0_0 {a : Nat} (h : isO 923 a 0 = true) : isO 923 (a + 1) 20 = true := (sh0 h).1.1
theorem z0_0 {a : Nat} (h : isO 923 a 0 = true) : ln (a + 1) = 12 := (sh0 h).1.2
theorem q0_1 {a : Nat} (h : isO 923 a 0 = true) : isO 923 (a + 2) 20 = true := (sh0 h).2.1.1
theorem z0_1 {a : Nat} (h : isO 923 a 0 = true) : ln (a + 2) = 6 := (sh0 h).2.1.2
theorem q0_2 {a : Nat} (h : isO 923 a 0 = true) : isO 923 (a + 3) 20 = true := (sh0 h).2.2.1.1
theorem z0_2 {a : Nat} (h : isO 923 a 0 = true) : ln (a + 3) = 6 := (sh0 h).2.2.1.2
theorem q0_3 {a : Nat} (h : isO 923 a 0 = true) : isO 923 (a + 4) 20 = true := (sh0 h).2.2.2.1.1
theorem z0_3 {a : Nat} (h : isO 923 a 0 = true) : ln (a + 4) = 8 := (sh0 h).2.2.2.1.2
theorem q0_4 {a : Nat} (h : isO 923 a 0 = true) : isO 923 (a + 5) 20 = true := (sh0 h).2.2.2.2.1.1
theorem z0_4 {a : Nat} (h : isO 923 a 0 = true) : ln (a + 5) = 7 := (sh0 h).2.2.2.2.1.2
theorem rg0 {a : Nat} (h : isO 923 a 0 = true) : (a = 153 ∨ a = 163) := (sh0 h).2.2.2.2.2
theorem fx0 {M : Mem} {a : Nat} (hX : FX M) (h : isO 923 a 0 = true) {k : Nat} (hk : k < 5) : M a k = ((a + (k + 1) : Nat) : Int) := by
  refine hX.get (isO_d h).2.1 ?_ (by omega)
  unfold fxT; rw [if_neg (Nat.not_lt.mpr (isO_d h).1)]; unfold fxU; rw [(isO_d h).2.2]; simp only []; rw [if_pos hk]; omega
theorem fx0_0 {M : Mem} {a : Nat} (hX : FX M) (h : isO 923 a 0 = true) : M a 0 = ((a + 1 : Nat) : Int) := fx0 hX h (by decide)
theorem fx0_1 {M : Mem} {a : Nat} (hX : FX M) (h : isO 923 a 0 = true) : M a 1 = ((a + 2 : Nat) : Int) := fx0 hX h (by decide)
theorem fx0_2 {M : Mem} {a : Nat} (hX : FX M) (h : isO 923 a 0 = true) : M a 2 = ((a + 3 : Nat) : Int) := fx0 hX h (by decide)
theorem fx0_3 {M : Mem} {a : Nat} (hX : FX M) (h : isO 923 a 0 = true) : M a 3 = ((a + 4 : Nat) : Int) := fx0 hX h (by decide)
theorem fx0_4 {M : Mem} {a : Nat} (hX : FX M) (h : isO 923 a 0 = true) : M a 4 = ((a + 5 : Nat) : Int) := fx0 hX h (by decide)
theorem nf0 {a : Nat} (h : isO 923 a 0 = true) {k : Nat} (hk : 5 ≤ k) : fxT a k = 0 := by
  unfold fxT; rw [if_neg (Nat.not_lt.mpr (isO_d h).1)]; unfold fxU; rw [(isO_d h).2.2]; simp only []; rw [if_neg (by omega)]
theorem sh2_all : ∀ a, a < 923 → isO 923 a 2 = true → (isO 923 (a + 1) 20 = true ∧ ln (a + 1) = 8) ∧ (isO 923 (a + 2) 20 = true ∧ ln (a + 2) = 150) ∧ (isO 923 (a + 3) 20 = true ∧ ln (a + 3) = 150) ∧ (a = 159 ∨ a = 169 ∨ a = 173) := by decide +kernel
theorem sh2 {a : Nat} (h : isO 923 a 2 = true) : (isO 923 (a + 1) 20 = true ∧ ln (a + 1) = 8) ∧ (isO 923 (a + 2) 20 = true ∧ ln (a + 2) = 150) ∧ (isO 923 (a + 3) 20 = true ∧ ln (a + 3) = 150) ∧ (a = 159 ∨ a = 169 ∨ a = 173) := sh2_all a (isO_d h).2.1 h
theorem q2_0 {a : Nat} (h : isO 923 a 2 = true) : isO 923 (a + 1) 20 = true := (sh2 h).1.1
theorem z2_0 {a : Nat} (h : isO 923 a 2 = true) : ln (a + 1) = 8 := (sh2 h).1.2
theorem q2_1 {a : Nat} (h : isO 923 a 2 = true) : isO 923 (a + 2) 20 = true := (sh2 h).2.1.1
theorem z2_1 {a : Nat} (h : isO 923 a 2 = true) : ln (a + 2) = 150 := (sh2 h).2.1.2
theorem q2_2 {a : Nat} (h : isO 923 a 2 = true) : isO 923 (a + 3) 20 = true := (sh2 h).2.2.1.1
theorem z2_2 {a : Nat} (h : isO 923 a 2 = true) : ln (a + 3) = 150 := (sh2 h).2.2.1.2
theorem rg2 {a : Nat} (h : isO 923 a 2 = true) : (a = 159 ∨ a = 169 ∨ a = 173) := (sh2 h).2.2.2
theorem fx2 {M : Mem} {a : Nat} (hX : FX M) (h : isO 923 a 2 = true) {k : Nat} (hk : k < 3) : M a k = ((a + (k + 1) : Nat) : Int) := by
  refine hX.get (isO_d h).2.1 ?_ (by omega)
  unfold fxT; rw [if_neg (Nat.not_lt.mpr (isO_d h).1)]; unfold fxU; rw [(isO_d h).2.2]; simp only []; rw [if_pos hk]; omega
theorem fx2_0 {M : Mem} {a : Nat} (hX : FX M) (h : isO 923 a 2 = true) : M a 0 = ((a + 1 : Nat) : Int) := fx2 hX h (by decide)
theorem fx2_1 {M : Mem} {a : Nat} (hX : FX M) (h : isO 923 a 2 = true) : M a 1 = ((a + 2 : Nat) : Int) := fx2 hX h (by decide)
theorem fx2_2 {M : Mem} {a : Nat} (hX : FX M) (h : isO 923 a 2 = true) : M a 2 = ((a + 3 : Nat) : Int) := fx2 hX h (by decide)
theorem nf2 {a : Nat} (h : isO 923 a 2 = true) {k : Nat} (hk : 3 ≤ k) : fxT a k = 0 := by
  unfold fxT; rw [if_neg (Nat.not_lt.mpr (isO_d h).1)]; unfold fxU; rw [(isO_d h).2.2]; simp only []; rw [if_neg (by omega)]
theorem sh3_all : ∀ a, a < 923 → isO 923 a 3 = true → (isO 923 (a + 1) 20 = true ∧ ln (a + 1) = 6) ∧ (isO 923 (a + 2) 20 = true ∧ ln (a + 2) = 6) ∧ (isO 923 (a + 3) 20 = true ∧ ln (a + 3) = 6) ∧ (isO 923 (a + 4) 20 = true ∧ ln (a + 4) = 6) ∧ (40 ≤ a ∧ a + 4 < 153 ∨ 179 ≤ a ∧ a + 4 < 440) := by decide +kernel
theorem sh3 {a : Nat} (h : isO 923 a 3 = true) : (isO 923 (a + 1) 20 = true ∧ ln (a + 1) = 6) ∧ (isO 923 (a + 2) 20 = true ∧ ln (a + 2) = 6) ∧ (isO 923 (a + 3) 20 = true ∧ ln (a + 3) = 6) ∧ (isO 923 (a + 4) 20 = true ∧ ln (a + 4) = 6) ∧ (40 ≤ a ∧ a + 4 < 153 ∨ 179 ≤ a ∧ a + 4 < 440) := sh3_all a (isO_d h).2.1 h
theorem q3_0 {a : Nat} (h : isO 923 a 3 = true) : isO 923 (a + 1) 20 = true := (sh3 h).1.1
theorem z3_0 {a : Nat} (h : isO 923 a 3 = true) : ln (a + 1) = 6 := (sh3 h).1.2
theorem q3_1 {a : Nat} (h : isO 923 a 3 = true) : isO 923 (a + 2) 20 = true := (sh3 h).2.1.1
theorem z3_1 {a : Nat} (h : isO 923 a 3 = true) : ln (a + 2) = 6 := (sh3 h).2.1.2
theorem q3_2 {a : Nat} (h : isO 923 a 3 = true) : isO 923 (a + 3) 20 = true := (sh3 h).2.2.1.1
theorem z3_2 {a : Nat} (h : isO 923 a 3 = true) : ln (a + 3) = 6 := (sh3 h).2.2.1.2
theorem q3_3 {a : Nat} (h : isO 923 a 3 = true) : isO 923 (a + 4) 20 = true := (sh3 h).2.2.2.1.1
theorem z3_3 {a : Nat} (h : isO 923 a 3 = true) : ln (a + 4) = 6 := (sh3 h).2.2.2.1.2
theorem rg3 {a : Nat} (h : isO 923 a 3 = true) : (40 ≤ a ∧ a + 4 < 153 ∨ 179 ≤ a ∧ a + 4 < 440) := (sh3 h).2.2.2.2
theorem fx3 {M : Mem} {a : Nat} (hX : FX M) (h : isO 923 a 3 = true) {k : Nat} (hk : k < 4) : M a k = ((a + (k + 1) : Nat) : Int) := by
  refine hX.get (isO_d h).2.1 ?_ (by omega)
  unfold fxT; rw [if_neg (Nat.not_lt.mpr (isO_d h).1)]; unfold fxU; rw [(isO_d h).2.2]; simp only []; rw [if_pos hk]; omega
theorem fx3_0 {M : Mem} {a : Nat} (hX : FX M) (h : isO 923 a 3 = true) : M a 0 = ((a + 1 : Nat) : Int) := fx3 hX h (by decide)
theorem fx3_1 {M : Mem} {a : Nat} (hX : FX M) (h : isO 923 a 3 = true) : M a 1 = ((a + 2 : Nat) : Int) := fx3 hX h (by decide)
theorem fx3_2 {M : Mem} {a : Nat} (hX : FX M) (h : isO 923 a 3 = true) : M a 2 = ((a + 3 : Nat) : Int) := fx3 hX h (by decide)
theorem fx3_3 {M : Mem} {a : Nat} (hX : FX M) (h : isO 923 a 3 = true) : M a 3 = ((a + 4 : Nat) : Int) := fx3 hX h (by decide)
theorem nf3 {a : Nat} (h : isO 923 a 3 = true) {k : Nat} (hk : 4 ≤ k) : fxT a k = 0 := by
  unfold fxT; rw [if_neg (Nat.not_lt.mpr (isO_d h).1)]; unfold fxU; rw [(isO_d h).2.2]; simp only []; rw [if_neg (by omega)]
theorem sh6_all : ∀ a, a < 923 → isO 923 a 6 = true → (isO 923 (a + 1) 33 = true ∧ ln (a + 1) = 16) ∧ (a = 50 ∨ a = 184 ∨ a = 271 ∨ a = 358) := by decide +kernel
theorem sh6 {a : Nat} (h : isO 923 a 6 = true) : (isO 923 (a + 1) 33 = true ∧ ln (a + 1) = 16) ∧ (a = 50 ∨ a = 184 ∨ a = 271 ∨ a = 358) := sh6_all a (isO_d h).2.1 h
theorem q6_0 {a : Nat} (h : isO 923 a 6 = true) : isO 923 (a + 1) 33 = true := (sh6 h).1.1
theorem z6_0 {a : Nat} (h : isO 923 a 6 = true) : ln (a + 1) = 16 := (sh6 h).1.2
theorem rg6 {a : Nat} (h : isO 923 a 6 = true) : (a = 50 ∨ a = 184 ∨ a = 271 ∨ a = 358) := (sh6 h).2
theorem fx6 {M : Mem} {a : Nat} (hX : FX M) (h : isO 923 a 6 = true) {k : Nat} (hk : k < 1) : M a k = ((a + (k + 1) : Nat) : Int) := by
  refine hX.get (isO_d h).2.1 ?_ (by omega)
  unfold fxT; rw [if_neg (Nat.not_lt.mpr (isO_d h).1)]; unfold fxU; rw [(isO_d h).2.2]; simp only []; rw [if_pos hk]; omega
theorem fx6_0 {M : Mem} {a : Nat} (hX : FX M) (h : isO 923 a 6 = true) : M a 0 = ((a + 1 : Nat) : Int) := fx6 hX h (by decide)
theorem nf6 {a : Nat} (h : isO 923 a 6 = true) {k : Nat} (hk : 1 ≤ k) : fxT a k = 0 := by
  unfold fxT; rw [if_neg (Nat.not_lt.mpr (isO_d h).1)]; unfold fxU; rw [(isO_d h).2.2]; simp only []; rw [if_neg (by omega)]
theorem sh8_all : ∀ a, a < 923 → isO 923 a 8 = true → (a = 177 ∨ a = 178) := by decide +kernel
theorem sh8 {a : Nat} (h : isO 923 a 8 = true) : (a = 177 ∨ a = 178) := sh8_all a (isO_d h).2.1 h
theorem rg8 {a : Nat} (h : isO 923 a 8 = true) : (a = 177 ∨ a = 178) := (sh8 h)
theorem nf8 {a : Nat} (h : isO 923 a 8 = true) {k : Nat} (hk : 0 ≤ k) : fxT a k = 0 := by
  unfold fxT; rw [if_neg (Nat.not_lt.mpr (isO_d h).1)]; unfold fxU; rw [(isO_d h).2.2]; rfl
theorem o32 : isO 923 32 11 = true := by decide +kernel
theorem o33 : isO 923 33 10 = true := by decide +kernel
theorem o34 : isO 923 34 21 = true := by decide +kernel
theorem l34 : ln 34 = 600 := by decide +kernel
theorem o35 : isO 923 35 7 = true := by decide +kernel
theorem o36 : isO 923 36 20 = true := by decide +kernel
theorem l36 : ln 36 = 150 := by decide +kernel
theorem o37 : isO 923 37 20 = true := by decide +kernel
theorem l37 : ln 37 = 150 := by decide +kernel
theorem o38 : isO 923 38 20 = true := by decide +kernel
theorem l38 : ln 38 = 150 := by decide +kernel
theorem o39 : isO 923 39 20 = true := by decide +kernel
theorem l39 : ln 39 = 150 := by decide +kernel
theorem o40 : isO 923 40 3 = true := by decide +kernel
theorem o41 : isO 923 41 20 = true := by decide +kernel
theorem l41 : ln 41 = 6 := by decide +kernel
theorem o42 : isO 923 42 20 = true := by decide +kernel
theorem l42 : ln 42 = 6 := by decide +kernel
theorem o43 : isO 923 43 20 = true := by decide +kernel
theorem l43 : ln 43 = 6 := by decide +kernel
theorem o44 : isO 923 44 20 = true := by decide +kernel
theorem l44 : ln 44 = 6 := by decide +kernel
theorem o45 : isO 923 45 3 = true := by decide +kernel
theorem o46 : isO 923 46 20 = true := by decide +kernel
theorem l46 : ln 46 = 6 := by decide +kernel
theorem o47 : isO 923 47 20 = true := by decide +kernel
theorem l47 : ln 47 = 6 := by decide +kernel
theorem o48 : isO 923 48 20 = true := by decide +kernel
theorem l48 : ln 48 = 6 := by decide +kernel
theorem o49 : isO 923 49 20 = true := by decide +kernel
theorem l49 : ln 49 = 6 := by decide +kernel
theorem o50 : isO 923 50 6 = true := by decide +kernel
theorem o51 : isO 923 51 33 = true := by decide +kernel
theorem l51 : ln 51 = 16 := by decide +kernel
theorem o132 : isO 923 132 33 = true := by decide +kernel
theorem l132 : ln 132 = 3 := by decide +kernel
theorem o133 : isO 923 133 36 = true := by decide +kernel
theorem l133 : ln 133 = 3 := by decide +kernel
theorem o134 : isO 923 134 5 = true := by decide +kernel
theorem o135 : isO 923 135 20 = true := by decide +kernel
theorem l135 : ln 135 = 4096 := by decide +kernel
theorem o136 : isO 923 136 20 = true := by decide +kernel
theorem l136 : ln 136 = 4096 := by decide +kernel
theorem o137 : isO 923 137 20 = true := by decide +kernel
theorem l137 : ln 137 = 12 := by decide +kernel
theorem o138 : isO 923 138 20 = true := by decide +kernel
theorem l138 : ln 138 = 6 := by decide +kernel
theorem o139 : isO 923 139 1 = true := by decide +kernel
theorem o140 : isO 923 140 20 = true := by decide +kernel
theorem l140 : ln 140 = 147 := by decide +kernel
theorem o141 : isO 923 141 20 = true := by decide +kernel
theorem l141 : ln 141 = 126 := by decide +kernel
theorem o142 : isO 923 142 20 = true := by decide +kernel
theorem l142 : ln 142 = 10 := by decide +kernel
theorem o143 : isO 923 143 20 = true := by decide +kernel
theorem l143 : ln 143 = 6 := by decide +kernel
theorem o144 : isO 923 144 4 = true := by decide +kernel
theorem o145 : isO 923 145 22 = true := by decide +kernel
theorem l145 : ln 145 = 100 := by decide +kernel
theorem o146 : isO 923 146 22 = true := by decide +kernel
theorem l146 : ln 146 = 100 := by decide +kernel
theorem o147 : isO 923 147 9 = true := by decide +kernel
theorem o148 : isO 923 148 3 = true := by decide +kernel
theorem o149 : isO 923 149 20 = true := by decide +kernel
theorem l149 : ln 149 = 6 := by decide +kernel
theorem o150 : isO 923 150 20 = true := by decide +kernel
theorem l150 : ln 150 = 6 := by decide +kernel
theorem o151 : isO 923 151 20 = true := by decide +kernel
theorem l151 : ln 151 = 6 := by decide +kernel
theorem o152 : isO 923 152 20 = true := by decide +kernel
theorem l152 : ln 152 = 6 := by decide +kernel
theorem o153 : isO 923 153 0 = true := by decide +kernel
theorem o159 : isO 923 159 2 = true := by decide +kernel
theorem o163 : isO 923 163 0 = true := by decide +kernel
theorem o169 : isO 923 169 2 = true := by decide +kernel
theorem o173 : isO 923 173 2 = true := by decide +kernel
theorem o177 : isO 923 177 8 = true := by decide +kernel
theorem o178 : isO 923 178 8 = true := by decide +kernel
theorem o440 : isO 923 440 12 = true := by decide +kernel
theorem o441 : isO 923 441 20 = true := by decide +kernel
theorem l441 : ln 441 = 600 := by decide +kernel
theorem o442 : isO 923 442 20 = true := by decide +kernel
theorem l442 : ln 442 = 2 := by decide +kernel
theorem o443 : isO 923 443 20 = true := by decide +kernel
theorem l443 : ln 443 = 6 := by decide +kernel
theorem o444 : isO 923 444 20 = true := by decide +kernel
theorem l444 : ln 444 = 6 := by decide +kernel
theorem o445 : isO 923 445 20 = true := by decide +kernel
theorem l445 : ln 445 = 12 := by decide +kernel
theorem o446 : isO 923 446 20 = true := by decide +kernel
theorem l446 : ln 446 = 12 := by decide +kernel
theorem o447 : isO 923 447 20 = true := by decide +kernel
theorem l447 : ln 447 = 8 := by decide +kernel
theorem o448 : isO 923 448 20 = true := by decide +kernel
theorem l448 : ln 448 = 8 := by decide +kernel
theorem o449 : isO 923 449 20 = true := by decide +kernel
theorem l449 : ln 449 = 7 := by decide +kernel
theorem o450 : isO 923 450 20 = true := by decide +kernel
theorem l450 : ln 450 = 7 := by decide +kernel
theorem o451 : isO 923 451 40 = true := by decide +kernel
theorem l451 : ln 451 = 6 := by decide +kernel
theorem o458 : isO 923 458 40 = true := by decide +kernel
theorem l458 : ln 458 = 6 := by decide +kernel
theorem o465 : isO 923 465 40 = true := by decide +kernel
theorem l465 : ln 465 = 160 := by decide +kernel
theorem o626 : isO 923 626 40 = true := by decide +kernel
theorem l626 : ln 626 = 160 := by decide +kernel
theorem o787 : isO 923 787 40 = true := by decide +kernel
theorem l787 : ln 787 = 8 := by decide +kernel
theorem o796 : isO 923 796 40 = true := by decide +kernel
theorem l796 : ln 796 = 8 := by decide +kernel
theorem o805 : isO 923 805 20 = true := by decide +kernel
theorem l805 : ln 805 = 160 := by decide +kernel
theorem o806 : isO 923 806 20 = true := by decide +kernel
theorem l806 : ln 806 = 8 := by decide +kernel
theorem o807 : isO 923 807 40 = true := by decide +kernel
theorem l807 : ln 807 = 80 := by decide +kernel
theorem o888 : isO 923 888 20 = true := by decide +kernel
theorem l888 : ln 888 = 27 := by decide +kernel
theorem o889 : isO 923 889 20 = true := by decide +kernel
theorem l889 : ln 889 = 27 := by decide +kernel
theorem o890 : isO 923 890 40 = true := by decide +kernel
theorem l890 : ln 890 = 16 := by decide +kernel
theorem o907 : isO 923 907 40 = true := by decide +kernel
theorem l907 : ln 907 = 3 := by decide +kernel
theorem o911 : isO 923 911 20 = true := by decide +kernel
theorem l911 : ln 911 = 6 := by decide +kernel
theorem o912 : isO 923 912 20 = true := by decide +kernel
theorem l912 : ln 912 = 6 := by decide +kernel
theorem o913 : isO 923 913 20 = true := by decide +kernel
theorem l913 : ln 913 = 7 := by decide +kernel
theorem o914 : isO 923 914 40 = true := by decide +kernel
theorem l914 : ln 914 = 7 := by decide +kernel
theorem o922 : isO 923 922 22 = true := by decide +kernel
theorem l922 : ln 922 = 1 := by decide +kernel
theorem ro451_all : ∀ j, j < 6 → isO 923 (452 + j) 20 = true ∧ ln (452 + j) = 2 ∧ fxT 451 j = 452 + j := by decide +kernel
theorem ro451 {i : Int} (h : 0 ≤ i ∧ i < (6 : Int)) : isO 923 (452 + Int.toNat i) 20 = true := (ro451_all _ (by omega)).1
theorem rz451 {i : Int} (h : 0 ≤ i ∧ i < (6 : Int)) : ln (452 + Int.toNat i) = 2 := (ro451_all _ (by omega)).2.1
theorem rf451 {M : Mem} {i : Int} (hX : FX M) (h : 0 ≤ i ∧ i < (6 : Int)) : M 451 (Int.toNat i) = ((452 + Int.toNat i : Nat) : Int) := hX.get (by decide) (ro451_all _ (by omega)).2.2 (by omega)
theorem ro458_all : ∀ j, j < 6 → isO 923 (459 + j) 20 = true ∧ ln (459 + j) = 2 ∧ fxT 458 j = 459 + j := by decide +kernel
theorem ro458 {i : Int} (h : 0 ≤ i ∧ i < (6 : Int)) : isO 923 (459 + Int.toNat i) 20 = true := (ro458_all _ (by omega)).1
theorem rz458 {i : Int} (h : 0 ≤ i ∧ i < (6 : Int)) : ln (459 + Int.toNat i) = 2 := (ro458_all _ (by omega)).2.1
theorem rf458 {M : Mem} {i : Int} (hX : FX M) (h : 0 ≤ i ∧ i < (6 : Int)) : M 458 (Int.toNat i) = ((459 + Int.toNat i : Nat) : Int) := hX.get (by decide) (ro458_all _ (by omega)).2.2 (by omega)
theorem ro465_all : ∀ j, j < 160 → isO 923 (466 + j) 20 = true ∧ ln (466 + j) = 2 ∧ fxT 465 j = 466 + j := by decide +kernel
theorem ro465 {i : Int} (h : 0 ≤ i ∧ i < (160 : Int)) : isO 923 (466 + Int.toNat i) 20 = true := (ro465_all _ (by omega)).1
theorem rz465 {i : Int} (h : 0 ≤ i ∧ i < (160 : Int)) : ln (466 + Int.toNat i) = 2 := (ro465_all _ (by omega)).2.1
theorem rf465 {M : Mem} {i : Int} (hX : FX M) (h : 0 ≤ i ∧ i < (160 : Int)) : M 465 (Int.toNat i) = ((466 + Int.toNat i : Nat) : Int) := hX.get (by decide) (ro465_all _ (by omega)).2.2 (by omega)
theorem ro626_all : ∀ j, j < 160 → isO 923 (627 + j) 20 = true ∧ ln (627 + j) = 2 ∧ fxT 626 j = 627 + j := by decide +kernel
theorem ro626 {i : Int} (h : 0 ≤ i ∧ i < (160 : Int)) : isO 923 (627 + Int.toNat i) 20 = true := (ro626_all _ (by omega)).1
theorem rz626 {i : Int} (h : 0 ≤ i ∧ i < (160 : Int)) : ln (627 + Int.toNat i) = 2 := (ro626_all _ (by omega)).2.1
theorem rf626 {M : Mem} {i : Int} (hX : FX M) (h : 0 ≤ i ∧ i < (160 : Int)) : M 626 (Int.toNat i) = ((627 + Int.toNat i : Nat) : Int) := hX.get (by decide) (ro626_all _ (by omega)).2.2 (by omega)
theorem ro787_all : ∀ j, j < 8 → isO 923 (788 + j) 20 = true ∧ ln (788 + j) = 2 ∧ fxT 787 j = 788 + j := by decide +kernel
theorem ro787 {i : Int} (h : 0 ≤ i ∧ i < (8 : Int)) : isO 923 (788 + Int.toNat i) 20 = true := (ro787_all _ (by omega)).1
theorem rz787 {i : Int} (h : 0 ≤ i ∧ i < (8 : Int)) : ln (788 + Int.toNat i) = 2 := (ro787_all _ (by omega)).2.1
theorem rf787 {M : Mem} {i : Int} (hX : FX M) (h : 0 ≤ i ∧ i < (8 : Int)) : M 787 (Int.toNat i) = ((788 + Int.toNat i : Nat) : Int) := hX.get (by decide) (ro787_all _ (by omega)).2.2 (by omega)
theorem ro796_all : ∀ j, j < 8 → isO 923 (797 + j) 20 = true ∧ ln (797 + j) = 2 ∧ fxT 796 j = 797 + j := by decide +kernel
theorem ro796 {i : Int} (h : 0 ≤ i ∧ i < (8 : Int)) : isO 923 (797 + Int.toNat i) 20 = true := (ro796_all _ (by omega)).1
theorem rz796 {i : Int} (h : 0 ≤ i ∧ i < (8 : Int)) : ln (797 + Int.toNat i) = 2 := (ro796_all _ (by omega)).2.1
theorem rf796 {M : Mem} {i : Int} (hX : FX M) (h : 0 ≤ i ∧ i < (8 : Int)) : M 796 (Int.toNat i) = ((797 + Int.toNat i : Nat) : Int) := hX.get (by decide) (ro796_all _ (by omega)).2.2 (by omega)
theorem ro807_all : ∀ j, j < 80 → isO 923 (808 + j) 20 = true ∧ ln (808 + j) = 4 ∧ fxT 807 j = 808 + j := by decide +kernel
theorem ro807 {i : Int} (h : 0 ≤ i ∧ i < (80 : Int)) : isO 923 (808 + Int.toNat i) 20 = true := (ro807_all _ (by omega)).1
theorem rz807 {i : Int} (h : 0 ≤ i ∧ i < (80 : Int)) : ln (808 + Int.toNat i) = 4 := (ro807_all _ (by omega)).2.1
theorem rf807 {M : Mem} {i : Int} (hX : FX M) (h : 0 ≤ i ∧ i < (80 : Int)) : M 807 (Int.toNat i) = ((808 + Int.toNat i : Nat) : Int) := hX.get (by decide) (ro807_all _ (by omega)).2.2 (by omega)
theorem ro890_all : ∀ j, j < 16 → isO 923 (891 + j) 20 = true ∧ ln (891 + j) = 27 ∧ fxT 890 j = 891 + j := by decide +kernel
theorem ro890 {i : Int} (h : 0 ≤ i ∧ i < (16 : Int)) : isO 923 (891 + Int.toNat i) 20 = true := (ro890_all _ (by omega)).1
theorem rz890 {i : Int} (h : 0 ≤ i ∧ i < (16 : Int)) : ln (891 + Int.toNat i) = 27 := (ro890_all _ (by omega)).2.1
theorem rf890 {M : Mem} {i : Int} (hX : FX M) (h : 0 ≤ i ∧ i < (16 : Int)) : M 890 (Int.toNat i) = ((891 + Int.toNat i : Nat) : Int) := hX.get (by decide) (ro890_all _ (by omega)).2.2 (by omega)
theorem ro907_all : ∀ j, j < 3 → isO 923 (908 + j) 20 = true ∧ ln (908 + j) = 460 ∧ fxT 907 j = 908 + j := by decide +kernel
theorem ro907 {i : Int} (h : 0 ≤ i ∧ i < (3 : Int)) : isO 923 (908 + Int.toNat i) 20 = true := (ro907_all _ (by omega)).1
theorem rz907 {i : Int} (h : 0 ≤ i ∧ i < (3 : Int)) : ln (908 + Int.toNat i) = 460 := (ro907_all _ (by omega)).2.1
theorem rf907 {M : Mem} {i : Int} (hX : FX M) (h : 0 ≤ i ∧ i < (3 : Int)) : M 907 (Int.toNat i) = ((908 + Int.toNat i : Nat) : Int) := hX.get (by decide) (ro907_all _ (by omega)).2.2 (by omega)
theorem ro914_all : ∀ j, j < 7 → isO 923 (915 + j) 20 = true ∧ ln (915 + j) = 21 ∧ fxT 914 j = 915 + j := by decide +kernel
theorem ro914 {i : Int} (h : 0 ≤ i ∧ i < (7 : Int)) : isO 923 (915 + Int.toNat i) 20 = true := (ro914_all _ (by omega)).1
theorem rz914 {i : Int} (h : 0 ≤ i ∧ i < (7 : Int)) : ln (915 + Int.toNat i) = 21 := (ro914_all _ (by omega)).2.1
theorem rf914 {M : Mem} {i : Int} (hX : FX M) (h : 0 ≤ i ∧ i < (7 : Int)) : M 914 (Int.toNat i) = ((915 + Int.toNat i : Nat) : Int) := hX.get (by decide) (ro914_all _ (by omega)).2.2 (by omega)
theorem rl_all : ∀ a, a < 923 → isO 923 a 6 = true → ∀ j, j < 16 → isO 923 (a + 2 + 5 * j) 3 = true ∧ fxT (a + 1) j = a + 2 + 5 * j := by decide +kernel
theorem rol {a : Nat} {i : Int} (h : isO 923 a 6 = true) (hi : 0 ≤ i ∧ i < (16 : Int)) : isO 923 (a + 2 + 5 * Int.toNat i) 3 = true := (rl_all a (isO_d h).2.1 h _ (by omega)).1
theorem rfl_ {M : Mem} {a : Nat} {i : Int} (hX : FX M) (h : isO 923 a 6 = true) (hi : 0 ≤ i ∧ i < (16 : Int)) : M (a + 1) (Int.toNat i) = ((a + 2 + 5 * Int.toNat i : Nat) : Int) := hX.get (isO_d (q6_0 h)).2.1 (rl_all a (isO_d h).2.1 h _ (by omega)).2 (by omega)
theorem ro132_all : ∀ j, j < 3 → isO 923 (179 + 87 * j) 3 = true ∧ fxT 132 j = 179 + 87 * j := by decide +kernel
theorem ro132 {i : Int} (h : 0 ≤ i ∧ i < (3 : Int)) : isO 923 (179 + 87 * Int.toNat i) 3 = true := (ro132_all _ (by omega)).1
theorem rf132 {M : Mem} {i : Int} (hX : FX M) (h : 0 ≤ i ∧ i < (3 : Int)) : M 132 (Int.toNat i) = ((179 + 87 * Int.toNat i : Nat) : Int) := hX.get (by decide) (ro132_all _ (by omega)).2 (by omega)
theorem ro133_all : ∀ j, j < 3 → isO 923 (184 + 87 * j) 6 = true ∧ fxT 133 j = 184 + 87 * j := by decide +kernel
theorem ro133 {i : Int} (h : 0 ≤ i ∧ i < (3 : Int)) : isO 923 (184 + 87 * Int.toNat i) 6 = true := (ro133_all _ (by omega)).1
theorem rf133 {M : Mem} {i : Int} (hX : FX M) (h : 0 ≤ i ∧ i < (3 : Int)) : M 133 (Int.toNat i) = ((184 + 87 * Int.toNat i : Nat) : Int) := hX.get (by decide) (ro133_all _ (by omega)).2 (by omega)
section RE
variable {d m pc pc' : Nat} {x y : Nat} {z : Int} {ls st : List PV} {M : Mem} {K : KK} {Q Q' : RR → Mem → KK → Prop}
theorem r_getIe {a i : Nat} {v : Int} (c : Ta m pc pc' (.getfield i) x y 0) (h : isO K.1 a x = true) (e : M a y = v) (k : Wp d m pc' ls (vI v :: st) M K Q) : Wp d m pc ls (vR a :: st) M K Q := by subst e; exact r_getI c h k
theorem r_getLe {a i : Nat} {v : Int} (c : Ta m pc pc' (.getfield i) x y 1) (h : isO K.1 a x = true) (e : M a y = v) (k : Wp d m pc' ls (vL v :: st) M K Q) : Wp d m pc ls (vR a :: st) M K Q := by subst e; exact r_getL c h k
theorem r_iae {a : Nat} {i v : Int} (c : Ta m pc pc' .iaload 0 y z) (h : isO K.1 a 20 = true) (hi : 0 ≤ i ∧ i < (ln a : Int)) (e : M a i.toNat = v) (k : Wp d m pc' ls (vI v :: st) M K Q) : Wp d m pc ls (vI i :: vR a :: st) M K Q := by subst e; exact r_ia c h hi k
theorem r_cae {a : Nat} {i v : Int} (c : Ta m pc pc' .caload x y z) (h : isO K.1 a 21 = true) (hi : 0 ≤ i ∧ i < (ln a : Int)) (e : M a i.toNat = v) (k : Wp d m pc' ls (vI v :: st) M K Q) : Wp d m pc ls (vI i :: vR a :: st) M K Q := by subst e; exact r_ca c h hi k
theorem r_lae {a : Nat} {i v : Int} (c : Ta m pc pc' .laload x y z) (h : isO K.1 a 22 = true) (hi : 0 ≤ i ∧ i < (ln a : Int)) (e : M a i.toNat = v) (k : Wp d m pc' ls (vL v :: st) M K Q) : Wp d m pc ls (vI i :: vR a :: st) M K Q := by subst e; exact r_la c h hi k
theorem r_alene {a n : Nat} (c : Ta m pc pc' .arraylength 0 y z) (h : Nat.ble 20 (tg a) = true ∧ isO K.1 a (tg a) = true) (e : ln a = n) (k : Wp d m pc' ls (vI (n : Int) :: st) M K Q) : Wp d m pc ls (vR a :: st) M K Q := by subst e; exact r_alen c h k
theorem Bk_v {v : PV} (h : Wp (d + 1) m pc' ls (v :: st) M K Q) : Bk d m pc pc' x ls st Q (.inl (some v)) M K := h
theorem Bk_n (h : Wp (d + 1) m pc' ls st M K Q) : Bk d m pc pc' x ls st Q (.inl none) M K := h
theorem Bk_e {e : Nat} (h1 : thT.getD x false = true) (h2 : hnd m pc e = none) (h3 : (hT.getD m []).isEmpty = true) (h : Q (.inr e) M K) : Bk d m pc pc' x ls st Q (.inr e) M K := by
  unfold Bk; exact ⟨h1, by rw [h2]; exact ⟨h3, h⟩⟩
theorem Bk_h {e h9 : Nat} (h1 : thT.getD x false = true) (h2 : hnd m pc e = some h9) (h : Wp (d + 1) m h9 ls [vU] M K Q) : Bk d m pc pc' x ls st Q (.inr e) M K := by
  unfold Bk; exact ⟨h1, by rw [h2]; exact h⟩
def bI (P : Prop) [Decidable P] : Int := if P then 1 else 0
theorem bI_t {P : Prop} [Decidable P] (h : P) : bI P = 1 := if_pos h
theorem bI_f {P : Prop} [Decidable P] (h : ¬ P) : bI P = 0 := if_neg h
theorem bI_01 {P : Prop} [Decidable P] : bI P = 0 ∨ bI P = 1 := by
  unfold bI; split <;> simp
theorem bI_ne {P : Prop} [Decidable P] : pcd .ne (bI P) 0 = decide P := by
  unfold bI; by_cases h : P <;> simp [h, pcd]
theorem bI_eq {P : Prop} [Decidable P] : pcd .eq (bI P) 0 = decide (¬ P) := by
  unfold bI; by_cases h : P <;> simp [h, pcd]
theorem w32_id {z : Int} (h : -2147483648 ≤ z ∧ z < 2147483648) : w32 z = z := by
  unfold w32; rw [Int.bmod_eq_of_le] <;> omega
theorem w32_lo {z : Int} : -2147483648 ≤ w32 z := by
  unfold w32; have := Int.le_bmod (x := z) (m := 4294967296) (by decide); omega
theorem w32_hi {z : Int} : w32 z < 2147483648 := by
  unfold w32; have := Int.bmod_lt (x := z) (m := 4294967296) (by decide); omega
def jmin (a b : Int) : Int := if b < a then b else a
def jmax (a b : Int) : Int := if a < b then b else a
def jabs (a : Int) : Int := if 0 ≤ a then a else w32 (-a)
theorem jmin_eq {a b : Int} : jmin a b = min a b := by unfold jmin; split <;> omega
theorem jmax_eq {a b : Int} : jmax a b = max a b := by unfold jmax; split <;> omega
theorem jabs_eq {a : Int} (h : -2147483648 < a ∧ a < 2147483648) : jabs a = (a.natAbs : Int) := by
  unfold jabs; split
  · omega
  · rw [w32_id (by omega)]; omega
end RE
