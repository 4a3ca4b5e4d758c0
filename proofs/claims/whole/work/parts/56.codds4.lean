theorem u48_0 {d : Nat} {l1 : Nat} {l2 : Nat} {l3 : Int} {l4 : Int} {l5 : Int} {l6 : Int} {M : Mem} {K : KK} {Q : RR → Mem → KK → Prop} (hK : K.1 = 923) (hX : FX M) (k1 : isO 923 l1 0 = true) (k2 : isO 923 l2 3 = true) (h : Wp (d + 1) 48 3 [vR 144, vR l1, vR l2, vI l3, vI l4, vI l5, vI l6, vI (0 : Int)] [] M K Q) : Wp (d + 1) 48 0 [vR 144, vR l1, vR l2, vI l3, vI l4, vI l5, vI l6, vU] [] M K Q := by
  refine r_iconst c48_0 ?_
  refine r_istore c48_1 (Nat.le_of_ble_eq_true rfl) ?_
  exact h
theorem u48_3 {d : Nat} {l1 : Nat} {l2 : Nat} {l3 : Int} {l4 : Int} {l5 : Int} {l6 : Int} {l7 : Int} {M : Mem} {K : KK} {Q : RR → Mem → KK → Prop} (hK : K.1 = 923) (hX : FX M) (k1 : isO 923 l1 0 = true) (k2 : isO 923 l2 3 = true) (h : ((99 : Int) < l7 → Wp (d + 1) 48 47 [vR 144, vR l1, vR l2, vI l3, vI l4, vI l5, vI l6, vI (0 : Int)] [] (mset M 144 3 (1 : Int)) K Q) ∧ (¬ ((99 : Int) < l7) → ∃ b3 : Nat, (M 144 0) = (b3 : Int) ∧ isO 923 b3 22 = true ∧ ln b3 = 100 ∧ (0 ≤ l3 ∧ l3 < (6 : Int)) ∧ (¬ l7 = (M (l2 + 1) (Int.toNat l3)) → (0 ≤ l7 ∧ l7 < (100 : Int)) ∧ Wp (d + 1) 48 3 [vR 144, vR l1, vR l2, vI l3, vI l4, vI l5, vI l6, vI (w32 (l7 + 1))] [] (mset M b3 (Int.toNat l7) (0 : Int)) K Q) ∧ (l7 = (M (l2 + 1) (Int.toNat l3)) → (0 ≤ l7 ∧ l7 < (100 : Int)) ∧ Wp (d + 1) 48 3 [vR 144, vR l1, vR l2, vI l3, vI l4, vI l5, vI l6, vI (w32 (l7 + 1))] [] (mset M b3 (Int.toNat l7) (1 : Int)) K Q))) : Wp (d + 1) 48 3 [vR 144, vR l1, vR l2, vI l3, vI l4, vI l5, vI l6, vI l7] [] M K Q := by
  refine r_iload c48_3 rfl ?_
  refine r_bipush c48_5 ?_
  refine r_icmpP (P := (99 : Int) < l7) c48_7 rfl (fun hc1 => ?_) (fun hc1 => ?_)
  · replace h := h.1 hc1
    refine r_aload_n c48_39 rfl ?_
    refine r_lconst c48_40 ?_
    refine r_putL c48_41 (oK hK o144) ?_
    have x2 := FX.set (v := (1 : Int)) (a := 144) (k := 3) hX (by decide +kernel)
    refine r_iconst c48_44 ?_
    refine r_istore c48_45 (Nat.le_of_ble_eq_true rfl) ?_
    exact h
  · replace h := h.2 hc1
    refine r_aload_n c48_10 rfl ?_
    obtain ⟨b3, h⟩ := h
    obtain ⟨e4, h⟩ := h
    obtain ⟨k5, h⟩ := h
    obtain ⟨z6, h⟩ := h
    refine r_getR c48_11 (oK hK o144) e4 (by have := (isO_d k5).1; omega) ?_
    refine r_iload c48_14 rfl ?_
    refine r_iload c48_16 rfl ?_
    refine r_aload_n c48_18 rfl ?_
    refine r_getR c48_19 (oK hK k2) (fx3_0 hX k2) (by omega) ?_
    refine r_iload_n c48_22 rfl ?_
    obtain ⟨s7, h⟩ := h
    refine r_iae c48_23 (oK hK (q3_0 k2)) (bd (z3_0 k2) s7) rfl ?_
    refine r_icmpP (P := ¬ l7 = (M (l2 + 1) (Int.toNat l3))) c48_24 rfl (fun hc8 => ?_) (fun hc8 => ?_)
    · replace h := h.1 hc8
      refine r_lconst c48_31 ?_
      obtain ⟨s10, h⟩ := h
      refine r_las c48_32 (oK hK k5) (bd z6 s10) ?_
      have x11 := FX.set (v := (0 : Int)) (a := b3) (k := (Int.toNat l7)) hX (nfl k5 _)
      refine r_iinc c48_33 rfl ?_
      refine r_goto c48_36 ?_
      exact h
    · have hc9 := Classical.not_not.mp hc8
      replace h := h.2 hc9
      refine r_lconst c48_27 ?_
      refine r_goto c48_28 ?_
      obtain ⟨s12, h⟩ := h
      refine r_las c48_32 (oK hK k5) (bd z6 s12) ?_
      have x13 := FX.set (v := (1 : Int)) (a := b3) (k := (Int.toNat l7)) hX (nfl k5 _)
      refine r_iinc c48_33 rfl ?_
      refine r_goto c48_36 ?_
      exact h
theorem u48_47 {d : Nat} {l1 : Nat} {l2 : Nat} {l3 : Int} {l4 : Int} {l5 : Int} {l6 : Int} {l7 : Int} {M : Mem} {K : KK} {Q : RR → Mem → KK → Prop} (hK : K.1 = 923) (hX : FX M) (k1 : isO 923 l1 0 = true) (k2 : isO 923 l2 3 = true) (h : (l6 ≤ l7 → ∃ b2 : Nat, (M 144 0) = (b2 : Int) ∧ isO 923 b2 22 = true ∧ ln b2 = 100 ∧ Wp (d + 1) 48 98 [vR 144, vR l1, vR l2, vI l3, vI l4, vI l5, vI l6, vI (0 : Int)] [] (mset M 144 2 (M b2 0)) K Q) ∧ (¬ (l6 ≤ l7) → Wm d 49 [vR 144, vR l1, vR l2, vI l3, vI l7, vI l4, vI l5] M K (Bk d 48 64 67 49 [vR 144, vR l1, vR l2, vI l3, vI l4, vI l5, vI l6, vI l7] [] Q))) : Wp (d + 1) 48 47 [vR 144, vR l1, vR l2, vI l3, vI l4, vI l5, vI l6, vI l7] [] M K Q := by
  refine r_iload c48_47 rfl ?_
  refine r_iload c48_49 rfl ?_
  refine r_icmpP (P := l6 ≤ l7) c48_51 rfl (fun hc1 => ?_) (fun hc1 => ?_)
  · replace h := h.1 hc1
    refine r_aload_n c48_85 rfl ?_
    refine r_aload_n c48_86 rfl ?_
    obtain ⟨b2, h⟩ := h
    obtain ⟨e3, h⟩ := h
    obtain ⟨k4, h⟩ := h
    obtain ⟨z5, h⟩ := h
    refine r_getR c48_87 (oK hK o144) e3 (by have := (isO_d k4).1; omega) ?_
    refine r_iconst c48_90 ?_
    refine r_lae c48_91 (oK hK k4) (bd z5 (by decide)) rfl ?_
    refine r_putL c48_92 (oK hK o144) ?_
    have x6 := FX.set (v := (M b2 0)) (a := 144) (k := 2) hX (by decide +kernel)
    refine r_iconst c48_95 ?_
    refine r_istore c48_96 (Nat.le_of_ble_eq_true rfl) ?_
    exact h
  · replace h := h.2 hc1
    refine r_aload_n c48_54 rfl ?_
    refine r_aload_n c48_55 rfl ?_
    refine r_aload_n c48_56 rfl ?_
    refine r_iload_n c48_57 rfl ?_
    refine r_iload c48_58 rfl ?_
    refine r_iload c48_60 rfl ?_
    refine r_iload c48_62 rfl ?_
    exact r_call c48_64 rfl rfl (Nat.le_of_ble_eq_true rfl) (okc_r rfl rfl (oK hK o144)) h
theorem u48_67 {d : Nat} {l1 : Nat} {l2 : Nat} {l3 : Int} {l4 : Int} {l5 : Int} {l6 : Int} {l7 : Int} {M : Mem} {K : KK} {Q : RR → Mem → KK → Prop} (hK : K.1 = 923) (hX : FX M) (k1 : isO 923 l1 0 = true) (k2 : isO 923 l2 3 = true) (h : Wp (d + 1) 48 47 [vR 144, vR l1, vR l2, vI l3, vI l4, vI l5, vI l6, vI (w32 (l7 + 1))] [] (mset M 144 3 (w64 ((M 144 3) * (16 : Int)))) K Q) : Wp (d + 1) 48 67 [vR 144, vR l1, vR l2, vI l3, vI l4, vI l5, vI l6, vI l7] [] M K Q := by
  refine r_aload_n c48_67 rfl ?_
  refine r_dupr c48_68 ?_
  refine r_getLe c48_69 (oK hK o144) rfl ?_
  refine r_ldc2 c48_72 ?_
  refine r_lmul c48_75 ?_
  refine r_putL c48_76 (oK hK o144) ?_
  have x1 := FX.set (v := (w64 ((M 144 3) * (16 : Int)))) (a := 144) (k := 3) hX (by decide +kernel)
  refine r_iinc c48_79 rfl ?_
  refine r_goto c48_82 ?_
  exact h
theorem u48_98 {d : Nat} {l1 : Nat} {l2 : Nat} {l3 : Int} {l4 : Int} {l5 : Int} {l6 : Int} {l7 : Int} {M : Mem} {K : KK} {Q : RR → Mem → KK → Prop} (hK : K.1 = 923) (hX : FX M) (k1 : isO 923 l1 0 = true) (k2 : isO 923 l2 3 = true) (h : ((w32 ((4 : Int) * l6)) ≤ l7 → Q (.inl none) M K) ∧ (¬ ((w32 ((4 : Int) * l6)) ≤ l7) → (¬ (jcmp (Int.tmod (M 144 2) (2 : Int)) (0 : Int)) = (0 : Int) → Q (.inl none) M K) ∧ ((jcmp (Int.tmod (M 144 2) (2 : Int)) (0 : Int)) = (0 : Int) → Wp (d + 1) 48 98 [vR 144, vR l1, vR l2, vI l3, vI l4, vI l5, vI l6, vI (w32 (l7 + 1))] [] (mset (mset M 144 2 (w64 (Int.tdiv (M 144 2) (2 : Int)))) 144 3 (w64 (Int.tdiv (M 144 3) (2 : Int)))) K Q))) : Wp (d + 1) 48 98 [vR 144, vR l1, vR l2, vI l3, vI l4, vI l5, vI l6, vI l7] [] M K Q := by
  refine r_iload c48_98 rfl ?_
  refine r_iconst c48_100 ?_
  refine r_iload c48_101 rfl ?_
  refine r_imul c48_103 ?_
  refine r_icmpP (P := (w32 ((4 : Int) * l6)) ≤ l7) c48_104 rfl (fun hc1 => ?_) (fun hc1 => ?_)
  · replace h := h.1 hc1
    exact r_ret c48_150 h
  · replace h := h.2 hc1
    refine r_aload_n c48_107 rfl ?_
    refine r_getLe c48_108 (oK hK o144) rfl ?_
    refine r_ldc2 c48_111 ?_
    refine r_lrem c48_114 (by decide) ?_
    refine r_lconst c48_115 ?_
    refine r_lcmp c48_116 ?_
    refine r_ifP (P := ¬ (jcmp (Int.tmod (M 144 2) (2 : Int)) (0 : Int)) = (0 : Int)) c48_117 rfl (fun hc2 => ?_) (fun hc2 => ?_)
    · replace h := h.1 hc2
      exact r_ret c48_150 h
    · have hc3 := Classical.not_not.mp hc2
      replace h := h.2 hc3
      refine r_aload_n c48_120 rfl ?_
      refine r_dupr c48_121 ?_
      refine r_getLe c48_122 (oK hK o144) rfl ?_
      refine r_ldc2 c48_125 ?_
      refine r_ldiv c48_128 (by decide) ?_
      refine r_putL c48_129 (oK hK o144) ?_
      have x4 := FX.set (v := (w64 (Int.tdiv (M 144 2) (2 : Int)))) (a := 144) (k := 2) hX (by decide +kernel)
      refine r_aload_n c48_132 rfl ?_
      refine r_dupr c48_133 ?_
      refine r_getLe c48_134 (oK hK o144) (ms_nk (by decide)) ?_
      refine r_ldc2 c48_137 ?_
      refine r_ldiv c48_140 (by decide) ?_
      refine r_putL c48_141 (oK hK o144) ?_
      have x5 := FX.set (v := (w64 (Int.tdiv (M 144 3) (2 : Int)))) (a := 144) (k := 3) x4 (by decide +kernel)
      refine r_iinc c48_144 rfl ?_
      refine r_goto c48_147 ?_
      exact h
/-! odds: all days, and the fraction made short -/
theorem half_done {u a b i N : Nat} (ha : a * 2 ^ i = u) (hb : b * 2 ^ i = 2 ^ N) (h : i = N ∨ a % 2 = 1) : u / Nat.gcd (2 ^ N) u = a ∧ 2 ^ N / Nat.gcd (2 ^ N) u = b := by
  have hp : 0 < 2 ^ i := Nat.pow_pos (by decide)
  have hbd : b ∣ 2 ^ N := ⟨2 ^ i, hb.symm⟩
  have hg : Nat.gcd b a = 1 := by
    rcases h with rfl | h
    · have : b = 1 := Nat.eq_of_mul_eq_mul_right hp (by omega)
      subst this
      exact Nat.gcd_one_left a
    · have h2 : Nat.Coprime 2 a := by
        unfold Nat.Coprime
        rw [Nat.gcd_rec, h]
        decide
      exact Nat.Coprime.coprime_dvd_left hbd (Nat.Coprime.pow_left N h2)
  have hgcd : Nat.gcd (2 ^ N) u = 2 ^ i := by rw [← ha, ← hb, Nat.gcd_mul_right, hg, Nat.one_mul]
  rw [hgcd, ← ha, ← hb]
  exact ⟨Nat.mul_div_cancel _ hp, Nat.mul_div_cancel _ hp⟩
theorem half_more {a b i N u : Nat} (ha : a * 2 ^ i = u) (hb : b * 2 ^ i = 2 ^ N) (hi : i < N) (h : a % 2 = 0) : (a / 2) * 2 ^ (i + 1) = u ∧ (b / 2) * 2 ^ (i + 1) = 2 ^ N := by
  have hp : 0 < 2 ^ i := Nat.pow_pos (by decide)
  have hb2 : b = 2 ^ (N - i) := by
    refine Nat.eq_of_mul_eq_mul_right hp ?_
    rw [hb, ← Nat.pow_add]; congr 1; omega
  have hb3 : b = 2 * 2 ^ (N - i - 1) := by
    rw [hb2, show N - i = (N - i - 1) + 1 by omega, Nat.pow_succ]; rw [Nat.mul_comm]; congr 2
  have e1 : 2 * (a / 2) = a := by omega
  have e2 : 2 * (b / 2) = b := by omega
  rw [Nat.pow_succ]
  constructor
  · rw [← ha]
    calc a / 2 * (2 ^ i * 2) = (2 * (a / 2)) * 2 ^ i := by rw [Nat.mul_comm (2 ^ i) 2, ← Nat.mul_assoc, Nat.mul_comm (a / 2) 2]
      _ = a * 2 ^ i := by rw [e1]
  · rw [← hb]
    calc b / 2 * (2 ^ i * 2) = (2 * (b / 2)) * 2 ^ i := by rw [Nat.mul_comm (2 ^ i) 2, ← Nat.mul_assoc, Nat.mul_comm (b / 2) 2]
      _ = b * 2 ^ i := by rw [e2]
/-- the fraction, made short -/
def odU (n : Nat) (u : Int) : Int := ((u.toNat / Nat.gcd (2 ^ (4 * n)) u.toNat : Nat) : Int)
def odB (n : Nat) (u : Int) : Int := ((2 ^ (4 * n) / Nat.gcd (2 ^ (4 * n)) u.toNat : Nat) : Int)
section CZ
variable {d : Nat} {M M' : Mem} {K : KK} {Q : RR → Mem → KK → Prop} {cm a l p wa wb : Nat} {c s : Mem} {L : LC} {q r : Int}
theorem FrOd.rf : FrOd M M := fun _ _ _ _ => rfl
theorem FrOd.tr {M1 M2 : Mem} (h1 : FrOd M M1) (h2 : FrOd M1 M2) : FrOd M M2 := fun b k p q => (h2 b k p q).trans (h1 b k p q)
theorem FrOd.mem {b k : Nat} {v : Int} (hb : 144 ≤ b ∧ b ≤ 146) : FrOd M (mset M b k v) := fun b' k' _ h2 => ms_na (fun e => h2 (e ▸ hb))
theorem SKc.od (hcm : isO 923 cm 0 = true) (ha : isO 923 a 3 = true) (hd : a + 4 < 144 ∨ 146 < a) (hf : FrOd M M') (hs : SKc M cm a c s) : SKc M' cm a c s := by
  have hg0 := rg0 hcm
  have hg3 := rg3 ha
  refine ⟨⟨fun k hk => (hf _ _ (by unfold scL; omega) (by omega)).trans (hs.1.1 k hk), fun b h1 h2 i hi => (hf _ _ (by unfold scL; omega) (by omega)).trans (hs.1.2 b h1 h2 i hi)⟩, hs.2.1, hs.2.2.1.fr (fun b j h1 h2 => hf b j (by unfold scL; omega) (by omega)), hs.2.2.2⟩
theorem LWC.od (hcm : isO 923 cm 0 = true) (hf : FrOd M M') (hL : LWC M cm L l) : LWC M' cm L l := by
  have hg0 := rg0 hcm
  have hg2 := rg2 hL.2.1
  exact ⟨(hf _ _ (by unfold scL; omega) (by omega)).trans hL.1, hL.2.1, ⟨(hf _ _ (by unfold scL; omega) (by omega)).trans hL.2.2.1.1, hL.2.2.1.2.1, fun i hi => (hf _ _ (by unfold scL; omega) (by omega)).trans (hL.2.2.1.2.2 i hi)⟩, hL.2.2.2⟩
theorem nf144 (k : Nat) (h : k = 2 ∨ k = 3) : fxT 144 k = 0 := by rcases h with rfl | rfl <;> decide +kernel
theorem jcmp_0 {z : Int} (h : 0 ≤ z) : jcmp z 0 = 0 ↔ z = 0 := by
  unfold jcmp
  split
  · constructor <;> intro h9 <;> omega
  · split
    · rename_i h9; exact ⟨fun _ => h9, fun _ => rfl⟩
    · omega
theorem even_k {A : Nat} : jcmp (Int.tmod (A : Int) 2) 0 = 0 ↔ A % 2 = 0 := by
  rw [Int.tmod_eq_emod_of_nonneg (by omega), jcmp_0 (by omega)]; omega
theorem half_k {A : Nat} (h : A ≤ 4294967296) : w64 (Int.tdiv (A : Int) 2) = ((A / 2 : Nat) : Int) := by
  rw [Int.tdiv_eq_ediv_of_nonneg (by omega), w64_id (by omega)]; omega
theorem pow16 {n : Nat} : 2 ^ (4 * n) = 16 ^ n := by rw [Nat.pow_mul]
theorem pow16_le {n : Nat} (h : n ≤ 8) : 16 ^ n ≤ 4294967296 := by
  have h16 : 16 ^ n ≤ 16 ^ 8 := Nat.pow_le_pow_right (by decide) h
  have h168 : 16 ^ 8 = 4294967296 := by decide
  omega
/-- the halving -/
theorem half_loop {n U : Nat} (hK : K.1 = 923) (hcm : isO 923 cm 0 = true) (ha : isO 923 a 3 = true) (hn : n ≤ 8) (hU : U ≤ 16 ^ n)
    (k : ∀ M', FX M' → (∀ b j, ¬ (b = 144 ∧ (j = 2 ∨ j = 3)) → M' b j = M b j) → M' 144 2 = odU n (U : Int) → M' 144 3 = odB n (U : Int) → Q (.inl none) M' K) :
    ∀ f i, i + f = 4 * n → ∀ (A B : Nat) M1, FX M1 → (∀ b j, ¬ (b = 144 ∧ (j = 2 ∨ j = 3)) → M1 b j = M b j) → M1 144 2 = (A : Int) → M1 144 3 = (B : Int) → A * 2 ^ i = U → B * 2 ^ i = 2 ^ (4 * n) → Wp (d + 1) 48 98 [vR 144, vR cm, vR a, vI (p : Int), vI q, vI r, vI (n : Int), vI (i : Int)] [] M1 K Q := by
  have h16 := pow16_le hn
  have hp := pow16 (n := n)
  intro f
  induction f with
  | zero =>
    intro i hi A B M1 x1 f1 eA eB hA hB
    refine u48_98 hK x1 hcm ha ⟨fun _ => ?_, fun h => absurd (show w32 (4 * (n : Int)) ≤ (i : Int) by rw [w32_id (by omega)]; omega) h⟩
    obtain ⟨r1, r2⟩ := half_done hA hB (Or.inl (by omega))
    refine k M1 x1 f1 ?_ ?_
    · rw [eA]; unfold odU; rw [Int.toNat_natCast, r1]
    · rw [eB]; unfold odB; rw [Int.toNat_natCast, r2]
  | succ f ih =>
    intro i hi A B M1 x1 f1 eA eB hA hB
    have pi : 0 < 2 ^ i := Nat.pow_pos (by decide)
    have lA : A ≤ U := by rw [← hA]; exact Nat.le_mul_of_pos_right _ pi
    have lB : B ≤ 2 ^ (4 * n) := by rw [← hB]; exact Nat.le_mul_of_pos_right _ pi
    refine u48_98 hK x1 hcm ha ⟨fun h => absurd h (by rw [w32_id (by omega)]; omega), fun _ => ⟨fun h => ?_, fun h => ?_⟩⟩
    · rw [eA, even_k] at h
      obtain ⟨r1, r2⟩ := half_done hA hB (Or.inr (by omega))
      refine k M1 x1 f1 ?_ ?_
      · rw [eA]; unfold odU; rw [Int.toNat_natCast, r1]
      · rw [eB]; unfold odB; rw [Int.toNat_natCast, r2]
    · rw [eA, even_k] at h
      obtain ⟨r1, r2⟩ := half_more hA hB (by omega) h
      rw [eA, eB, half_k (by omega), half_k (by omega), w1 (by omega)]
      refine ih (i + 1) (by omega) (A / 2) (B / 2) _ ((x1.set (nf144 2 (Or.inl rfl))).set (nf144 3 (Or.inr rfl))) (fun b j hb => ?_) ?_ ms_eq r1 r2
      · have e : mset (mset M1 144 2 ((A / 2 : Nat) : Int)) 144 3 ((B / 2 : Nat) : Int) b j = M1 b j := by
          unfold mset
          rw [if_neg (fun h => hb ⟨h.1, Or.inr h.2⟩), if_neg (fun h => hb ⟨h.1, Or.inl h.2⟩)]
        exact e.trans (f1 b j hb)
      · rw [ms_nk (by decide), ms_eq]
/-- ways of n days -/
def odW (c s : Mem) (L : LC) (p : Nat) (q r : Int) (n : Nat) : Int := waysN c L p (s 0 p) q r (s 4 0) (s 2 p) (s 3 p) (s 1 p).toNat n 0
theorem g48 {n : Nat} (hK : K.1 = 923) (hX : FX M) (hcm : isO 923 cm 0 = true) (ha : isO 923 a 3 = true) (hd : a + 4 < 144 ∨ 146 < a) (hs : SKc M cm a c s) (hL : LWC M cm L l) (hp : p < nSt c) (hq : 0 ≤ q ∧ q ≤ 16) (hO : OW M wa wb) (hn : n ≤ 8)
    (k : ∀ M', FX M' → FrOd M M' → (∃ wa' wb', OW M' wa' wb') → M' 144 2 = odU n (odW c s L p q r n) → M' 144 3 = odB n (odW c s L p q r n) → Q (.inl none) M' K) : Wm (d + 4) 48 [vR 144, vR cm, vR a, vI (p : Int), vI q, vI r, vI (n : Int)] M K Q := by
  obtain ⟨⟨oa, la⟩, ⟨ob, lb⟩⟩ := hO.o
  have hO' := hO
  obtain ⟨hab, e0, e1⟩ := hO'
  have hn6 := hs.2.1.2.1
  have hp6 : p < 6 := by unfold nSt at hp; omega
  have hgr := hs.2.2.2.1 p hp
  have hg3 := rg3 ha
  have pN := pow16_le hn
  refine u48_0 hK hX hcm ha ?_
  -- the days
  have days : ∀ f i, i + f = n → ∀ M1 (wa wb : Nat), FX M1 → FrOd M M1 → OW M1 wa wb → M1 144 3 = ((16 ^ i : Nat) : Int) → (∀ g, g < 100 → M1 wa g = waysN c L p (s 0 p) q r (s 4 0) (s 2 p) (s 3 p) (s 1 p).toNat i g) → Wp (d + 4) 48 47 [vR 144, vR cm, vR a, vI (p : Int), vI q, vI r, vI (n : Int), vI (i : Int)] [] M1 K Q := by
    intro f
    induction f with
    | zero =>
      intro i hi M1 wa wb x1 f1 O1 b1 W1
      have hin : i = n := by omega
      subst hin
      obtain ⟨⟨oa, la⟩, ⟨ob, lb⟩⟩ := O1.o
      refine u48_47 hK x1 hcm ha ⟨fun _ => ⟨wa, O1.2.1, oa, la, ?_⟩, fun h => absurd (Int.le_refl _) h⟩
      have hu0 : 0 ≤ waysN c L p (s 0 p) q r (s 4 0) (s 2 p) (s 3 p) (s 1 p).toNat i 0 := waysN_nn hq i 0
      have hu1 := ways_le (c := c) (L := L) (p := p) (x := s 0 p) (r := r) hq (dy := s 4 0) (wet := s 2 p) (milk := s 3 p) (g0 := (s 1 p).toNat) (by omega) i 0 (by omega)
      rw [W1 0 (by omega)]
      refine half_loop (M := mset M1 144 2 (waysN c L p (s 0 p) q r (s 4 0) (s 2 p) (s 3 p) (s 1 p).toNat i 0)) (U := (waysN c L p (s 0 p) q r (s 4 0) (s 2 p) (s 3 p) (s 1 p).toNat i 0).toNat) hK hcm ha hn (by omega) (fun M2 x2 f2 r1 r2 => ?_) (4 * i) 0 (by omega) (waysN c L p (s 0 p) q r (s 4 0) (s 2 p) (s 3 p) (s 1 p).toNat i 0).toNat (16 ^ i) _ (x1.set (nf144 2 (Or.inl rfl))) (fun _ _ _ => rfl) (by rw [ms_eq]; omega) ?_ (by rw [Nat.pow_zero, Nat.mul_one]) (by rw [Nat.pow_zero, Nat.mul_one, pow16])
      · rw [Int.toNat_of_nonneg hu0] at r1 r2
        refine k M2 x2 (fun b j h1 h2 => ?_) ⟨wa, wb, O1.1, ?_, ?_⟩ r1 r2
        · rw [f2 b j (by omega), ms_na (by omega)]; exact f1 b j h1 h2
        · rw [f2 144 0 (by omega), ms_nk (by decide)]; exact O1.2.1
        · rw [f2 144 1 (by omega), ms_nk (by decide)]; exact O1.2.2
      · rw [ms_nk (by decide)]; exact b1
    | succ f ih =>
      intro i hi M1 wa wb x1 f1 O1 b1 W1
      refine u48_47 hK x1 hcm ha ⟨fun h => absurd h (by omega), fun _ => ?_⟩
      have hWM := W1
      have hsum := ways_sum (c := c) (L := L) (p := p) (x := s 0 p) (r := r) hq (dy := s 4 0) (wet := s 2 p) (milk := s 3 p) (g0 := (s 1 p).toNat) (by omega) i
      have pi := pow16_le (n := i) (by omega)
      refine g49 (d := d) (L := L) (l := l) (c := c) (s := s) (wa := wa) (wb := wb) (W := waysN c L p (s 0 p) q r (s 4 0) (s 2 p) (s 3 p) (s 1 p).toNat i) hK x1 hcm ha hd (hs.od hcm ha hd f1) (hL.od hcm f1) hp hq O1 (by omega) (waysN_nn hq i) (by rw [hsum]; omega) hWM (fun M2 x2 f2 O2 k2 W2 => Bk_n ?_)
      refine u48_67 hK x2 hcm ha ?_
      have e3 : M2 144 3 = ((16 ^ i : Nat) : Int) := k2.2.trans b1
      have pi1 := pow16_le (n := i + 1) (by omega)
      have p1 : 16 ^ (i + 1) = 16 ^ i * 16 := Nat.pow_succ ..
      rw [e3, w1 (by omega), w64_id (by omega)]
      have g9 : FrOd M (mset M2 144 3 (((16 ^ i : Nat) : Int) * 16)) := (f1.tr f2).tr (FrOd.mem (by omega))
      obtain ⟨hab2, q0, q1⟩ := O2
      refine ih (i + 1) (by omega) _ wb wa (x2.set (nf144 3 (Or.inr rfl))) g9 ⟨hab2, (ms_nk (by decide)).trans q0, (ms_nk (by decide)).trans q1⟩ ?_ (fun g hg => ?_)
      · rw [ms_eq, p1]; omega
      · rw [ms_na (by omega), W2 g hg]; rfl
  -- all ways 0, and one
  have loop : ∀ f i, i + f = 100 → ∀ M1, FX M1 → (∀ b j, b ≠ wa → M1 b j = M b j) → (∀ g, g < i → M1 wa g = if g = (s 1 p).toNat then 1 else 0) → Wp (d + 4) 48 3 [vR 144, vR cm, vR a, vI (p : Int), vI q, vI r, vI (n : Int), vI (i : Int)] [] M1 K Q := by
    intro f
    induction f with
    | zero =>
      intro i hi M1 x1 f1 w1'
      have hi100 : i = 100 := by omega
      subst hi100
      refine u48_3 hK x1 hcm ha ⟨fun _ => ?_, fun h => absurd h (by omega)⟩
      have g9 : FrOd M M1 := fun b j h1 h2 => f1 b j (by omega)
      refine days n 0 (by omega) _ wa wb (x1.set (nf144 3 (Or.inr rfl))) (g9.tr (FrOd.mem (by omega))) ⟨hab, ?_, ?_⟩ ms_eq (fun g hg => ?_)
      · rw [ms_nk (by decide), f1 144 0 (by omega)]; exact e0
      · rw [ms_nk (by decide), f1 144 1 (by omega)]; exact e1
      · rw [ms_na (by omega)]; exact w1' g hg
    | succ f ih =>
      intro i hi M1 x1 f1 w1'
      have r1 : M1 144 0 = (wa : Int) := (f1 144 0 (by omega)).trans e0
      have eg : M1 (a + 1) (Int.toNat (p : Int)) = s 1 p := by
        rw [Int.toNat_natCast, f1 _ _ (by omega)]; exact (hs.2.2.1.1 p hp).2.1
      have stepM : ∀ v : Int, v = (if i = (s 1 p).toNat then 1 else 0) → Wp (d + 4) 48 3 [vR 144, vR cm, vR a, vI (p : Int), vI q, vI r, vI (n : Int), vI (w32 ((i : Int) + 1))] [] (mset M1 wa (Int.toNat (i : Int)) v) K Q := by
        intro v hv
        rw [w1 (by omega), Int.toNat_natCast]
        refine ih (i + 1) (by omega) _ (x1.set (nfa22 oa _)) (fun b k hb => (ms_na hb).trans (f1 b k hb)) (fun g hg => ?_)
        by_cases hgi : g = i
        · subst hgi; rw [ms_eq]; exact hv
        · rw [ms_nk hgi]; exact w1' g (by omega)
      refine u48_3 hK x1 hcm ha ⟨fun h => absurd h (by omega), fun _ => ⟨wa, r1, oa, la, by omega, fun h => ⟨by omega, ?_⟩, fun h => ⟨by omega, ?_⟩⟩⟩
      · rw [eg] at h; exact stepM 0 (by rw [if_neg (by omega)])
      · rw [eg] at h; exact stepM 1 (by rw [if_pos (by omega)])
  exact loop 100 0 rfl M hX (fun _ _ _ => rfl) (fun g hg => absurd hg (by omega))
end CZ
