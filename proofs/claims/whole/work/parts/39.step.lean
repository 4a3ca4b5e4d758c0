/-! steps: the class -/
def layS (c s : Mem) (p : Nat) (x : Int) : Option Mem := if s 0 p = -1 ∧ roomS c s p x = true then some (mset s 0 p x) else none
def foldS (s : Mem) (p : Nat) : Option Mem := if s 0 p = -1 then none else some (mset (mset (mset s 0 p (-1)) 2 p 0) 3 p 0)
def wetS (s : Mem) (p : Nat) : Option Mem := if s 0 p ≠ -1 ∧ s 2 p < 9 then some (mset s 2 p (s 2 p + 1)) else none
def milkS (s : Mem) (p : Nat) : Option Mem := if s 0 p ≠ -1 ∧ s 3 p ≠ 1 ∧ 0 < s 4 1 then some (mset (mset s 3 p 1) 4 1 (s 4 1 - 1)) else none
def begS (c : Mem) : Mem := fun b p => if b = 0 then -1 else if b = 1 then c 3 p else if b = 4 ∧ p = 1 then c 0 4 else 0
theorem begS_w {c : Mem} (hw : CW c) : LW c (begS c) := by
  have hn := hw.n.1
  obtain ⟨-, -, -, -, h4, -, -, -, h3, -⟩ := hw
  refine ⟨fun p hp => ?_, ?_, ?_, fun p q hp hq hpq h => absurd rfl h⟩
  · have := h3 p (by omega)
    simp [begS]; omega
  · simp [begS]
  · simp [begS]; omega
theorem layS_w {c s s' : Mem} {p : Nat} {x : Int} (hw : CW c) (h : LW c s) (hp : p < nSt c) (hx : 0 ≤ x) (he : layS c s p x = some s') : LW c s' := by
  unfold layS at he
  split at he
  · rename_i hr
    obtain ⟨hr0, hr1⟩ := hr
    rw [roomS_iff] at hr1
    cases he
    obtain ⟨h1, h2, h3, h4⟩ := h
    refine ⟨fun q hq => ?_, by simpa [mset] using h2, by simpa [mset] using h3, fun q r hq hr' hqr => ?_⟩
    · obtain ⟨a1, a2, a3, a4⟩ := h1 q hq
      simp only [mset]
      refine ⟨?_, by simpa using a2, by simpa using a3, by simpa using a4⟩
      by_cases hqp : q = p
      · subst hqp; simp; omega
      · simpa [hqp] using a1
    · simp only [mset]
      by_cases hqp : q = p
      · subst hqp
        have hrq : ¬ r = q := fun h => hqr h.symm
        simp [hrq]
        intro _ h9
        rcases hr1.2 r hr' with h | h | h | h <;> omega
      · by_cases hrp : r = p
        · subst hrp
          simp [hqp]
          intro h9 _
          rcases hr1.2 q hq with h | h | h | h <;> omega
        · simpa [hqp, hrp] using h4 q r hq hr' hqr
  · cases he
theorem LW.off {c s : Mem} {p : Nat} {u v : Int} (h : LW c s) (hu : 0 ≤ u ∧ u ≤ 9) (hv : v = 0 ∨ v = 1) (hl : (s 0 p = -1 ∨ u = s 2 p) ∨ True) {f : Int} (hf : f = -1 ∨ f = s 0 p) : LW c (mset (mset (mset s 0 p f) 2 p u) 3 p v) := by
  obtain ⟨h1, h2, h3, h4⟩ := h
  refine ⟨fun q hq => ?_, by simpa [mset] using h2, by simpa [mset] using h3, fun q r hq hr' hqr => ?_⟩
  · obtain ⟨a1, a2, a3, a4⟩ := h1 q hq
    simp only [mset]
    by_cases hqp : q = p
    · subst hqp
      simp
      refine ⟨?_, a2, hu, hv⟩
      rcases hf with rfl | rfl
      · exact Or.inl rfl
      · exact a1
    · simp [hqp]; exact ⟨a1, a2, a3, a4⟩
  · have := h4 q r hq hr' hqr
    simp only [mset]
    by_cases hqp : q = p
    · subst hqp
      have hrq : ¬ r = q := fun h => hqr h.symm
      simp [hrq]
      rcases hf with rfl | rfl
      · intro h; exact absurd rfl h
      · exact this
    · by_cases hrp : r = p
      · subst hrp
        simp [hqp]
        rcases hf with rfl | rfl
        · intro _ h; exact absurd rfl h
        · exact this
      · simpa [hqp, hrp] using this
theorem mset_id {s : Mem} {b p : Nat} : mset s b p (s b p) = s := by
  funext b' p'
  unfold mset
  split
  · rename_i h; rw [h.1, h.2]
  · rfl
theorem foldS_w {c s s' : Mem} {p : Nat} (h : LW c s) (he : foldS s p = some s') : LW c s' := by
  unfold foldS at he
  split at he
  · cases he
  · cases he; exact h.off (by omega) (by omega) (Or.inr trivial) (Or.inl rfl)
theorem wetS_w {c s s' : Mem} {p : Nat} (h : LW c s) (hp : p < nSt c) (he : wetS s p = some s') : LW c s' := by
  unfold wetS at he
  obtain ⟨-, -, w2, w3⟩ := h.1 p hp
  split at he
  · cases he
    have := h.off (p := p) (u := s 2 p + 1) (v := s 3 p) (f := s 0 p) (by omega) w3 (Or.inr trivial) (Or.inr rfl)
    rw [mset_id] at this
    have e : mset (mset s 2 p (s 2 p + 1)) 3 p (s 3 p) = mset s 2 p (s 2 p + 1) := by
      have := mset_id (s := mset s 2 p (s 2 p + 1)) (b := 3) (p := p)
      rwa [ms_na (by decide)] at this
    rwa [e] at this
  · cases he
theorem milkS_w {c s s' : Mem} {p : Nat} (h : LW c s) (hp : p < nSt c) (he : milkS s p = some s') : LW c s' := by
  unfold milkS at he
  obtain ⟨-, -, w2, w3⟩ := h.1 p hp
  split at he
  · cases he
    have := h.off (p := p) (u := s 2 p) (v := 1) (f := s 0 p) w2 (Or.inr rfl) (Or.inr trivial) (Or.inr rfl)
    rw [mset_id, mset_id] at this
    obtain ⟨h1, h2, h3, h4⟩ := this
    refine ⟨fun q hq => ?_, ?_, ?_, fun q r hq hr hqr => ?_⟩
    · have := h1 q hq; simpa [mset] using this
    · simpa [mset] using h2
    · have := h.2.2.1; simp [mset]; omega
    · have := h4 q r hq hr hqr; simpa [mset] using this
  · cases he
theorem mcpy_eq {M : Mem} {s d k : Nat} (hk : k < 6) : mcpy M s 0 d 0 6 d k = M s k := by
  unfold mcpy
  rw [if_pos (by omega), show ((k : Int) - 0 + 0).toNat = k by omega]
theorem mcpy_na {M : Mem} {s d a k : Nat} (h : a ≠ d) : mcpy M s 0 d 0 6 a k = M a k := by
  unfold mcpy
  rw [if_neg (fun h' => h h'.1)]
theorem FrI.cp {a s x : Nat} {M M1 : Mem} (h : FrI a M M1) (hb : a ≤ x ∧ x ≤ a + 4) : FrI a M (mcpy M1 s 0 x 0 6) := by
  intro b k p q
  rw [mcpy_na (by omega)]
  exact h b k p q
theorem u29_0 {d : Nat} {l0 : Nat} {l1 : Nat} {M : Mem} {K : KK} {Q : RR → Mem → KK → Prop} (hK : K.1 = 923) (hX : FX M) (k0 : isO 923 l0 3 = true) (k1 : isO 923 l1 0 = true) (h : Wp d 29 15 [vR l0, vR l1, vI (0 : Int)] [] (mset (mset M l0 4 (0 : Int)) l0 5 (M l1 9)) K Q) : Wp d 29 0 [vR l0, vR l1, vU] [] M K Q := by
  refine r_aload_n c29_0 rfl ?_
  refine r_iconst c29_1 ?_
  refine r_putI c29_2 (oK hK k0) ?_
  have x1 := FX.set (v := (0 : Int)) (a := l0) (k := 4) hX (nf3 k0 (by decide))
  refine r_aload_n c29_5 rfl ?_
  refine r_aload_n c29_6 rfl ?_
  refine r_getIe c29_7 (oK hK k1) (ms_na (by have := rg0 k1; have := rg3 k0; omega)) ?_
  refine r_putI c29_10 (oK hK k0) ?_
  have x2 := FX.set (v := (M l1 9)) (a := l0) (k := 5) x1 (nf3 k0 (by decide))
  refine r_iconst c29_13 ?_
  refine r_istore_n c29_14 (Nat.le_of_ble_eq_true rfl) ?_
  exact h
theorem u29_15 {d : Nat} {l0 : Nat} {l1 : Nat} {l2 : Int} {M : Mem} {K : KK} {Q : RR → Mem → KK → Prop} (hK : K.1 = 923) (hX : FX M) (k0 : isO 923 l0 3 = true) (k1 : isO 923 l1 0 = true) (h : ((6 : Int) ≤ l2 → Q (.inl none) M K) ∧ (¬ ((6 : Int) ≤ l2) → (0 ≤ l2 ∧ l2 < (6 : Int)) ∧ (0 ≤ l2 ∧ l2 < (6 : Int)) ∧ (0 ≤ l2 ∧ l2 < (6 : Int)) ∧ (0 ≤ l2 ∧ l2 < (6 : Int)) ∧ (0 ≤ l2 ∧ l2 < (6 : Int)) ∧ Wp d 29 15 [vR l0, vR l1, vI (w32 (l2 + 1))] [] (mset (mset (mset (mset M (l0 + 1) (Int.toNat l2) (M (l1 + 3) (Int.toNat l2))) (l0 + 2) (Int.toNat l2) (-1 : Int)) (l0 + 3) (Int.toNat l2) (0 : Int)) (l0 + 4) (Int.toNat l2) (0 : Int)) K Q)) : Wp d 29 15 [vR l0, vR l1, vI l2] [] M K Q := by
  refine r_iload_n c29_15 rfl ?_
  refine r_bipush c29_16 ?_
  refine r_icmpP (P := (6 : Int) ≤ l2) c29_18 rfl (fun hc1 => ?_) (fun hc1 => ?_)
  · replace h := h.1 hc1
    exact r_ret c29_60 h
  · replace h := h.2 hc1
    refine r_aload_n c29_21 rfl ?_
    refine r_getR c29_22 (oK hK k0) (fx3_0 hX k0) (by omega) ?_
    refine r_iload_n c29_25 rfl ?_
    refine r_aload_n c29_26 rfl ?_
    refine r_getR c29_27 (oK hK k1) (fx0_2 hX k1) (by omega) ?_
    refine r_iload_n c29_30 rfl ?_
    obtain ⟨s2, h⟩ := h
    refine r_iae c29_31 (oK hK (q0_2 k1)) (bd (z0_2 k1) s2) rfl ?_
    obtain ⟨s3, h⟩ := h
    refine r_ias c29_32 (oK hK (q3_0 k0)) (bd (z3_0 k0) s3) ?_
    have x4 := FX.set (v := (M (l1 + 3) (Int.toNat l2))) (a := (l0 + 1)) (k := (Int.toNat l2)) hX (nfa (q3_0 k0) _)
    refine r_aload_n c29_33 rfl ?_
    refine r_getR c29_34 (oK hK k0) (fx3_1 x4 k0) (by omega) ?_
    refine r_iload_n c29_37 rfl ?_
    refine r_iconst c29_38 ?_
    obtain ⟨s5, h⟩ := h
    refine r_ias c29_39 (oK hK (q3_1 k0)) (bd (z3_1 k0) s5) ?_
    have x6 := FX.set (v := (-1 : Int)) (a := (l0 + 2)) (k := (Int.toNat l2)) x4 (nfa (q3_1 k0) _)
    refine r_aload_n c29_40 rfl ?_
    refine r_getR c29_41 (oK hK k0) (fx3_2 x6 k0) (by omega) ?_
    refine r_iload_n c29_44 rfl ?_
    refine r_iconst c29_45 ?_
    obtain ⟨s7, h⟩ := h
    refine r_ias c29_46 (oK hK (q3_2 k0)) (bd (z3_2 k0) s7) ?_
    have x8 := FX.set (v := (0 : Int)) (a := (l0 + 3)) (k := (Int.toNat l2)) x6 (nfa (q3_2 k0) _)
    refine r_aload_n c29_47 rfl ?_
    refine r_getR c29_48 (oK hK k0) (fx3_3 x8 k0) (by omega) ?_
    refine r_iload_n c29_51 rfl ?_
    refine r_iconst c29_52 ?_
    obtain ⟨s9, h⟩ := h
    refine r_ias c29_53 (oK hK (q3_3 k0)) (bd (z3_3 k0) s9) ?_
    have x10 := FX.set (v := (0 : Int)) (a := (l0 + 4)) (k := (Int.toNat l2)) x8 (nfa (q3_3 k0) _)
    refine r_iinc c29_54 rfl ?_
    refine r_goto c29_57 ?_
    exact h
theorem u30_0 {d : Nat} {l0 : Nat} {l1 : Nat} {M : Mem} {K : KK} {Q : RR → Mem → KK → Prop} (hK : K.1 = 923) (hX : FX M) (k0 : isO 923 l0 3 = true) (k1 : isO 923 l1 3 = true) (h : Q (.inl none) (mset (mset (mcpy (mcpy (mcpy (mcpy M (l1 + 1) (0 : Int) (l0 + 1) (0 : Int) (6 : Int)) (l1 + 2) (0 : Int) (l0 + 2) (0 : Int) (6 : Int)) (l1 + 3) (0 : Int) (l0 + 3) (0 : Int) (6 : Int)) (l1 + 4) (0 : Int) (l0 + 4) (0 : Int) (6 : Int)) l0 4 ((mcpy (mcpy (mcpy (mcpy M (l1 + 1) (0 : Int) (l0 + 1) (0 : Int) (6 : Int)) (l1 + 2) (0 : Int) (l0 + 2) (0 : Int) (6 : Int)) (l1 + 3) (0 : Int) (l0 + 3) (0 : Int) (6 : Int)) (l1 + 4) (0 : Int) (l0 + 4) (0 : Int) (6 : Int)) l1 4)) l0 5 ((mset (mcpy (mcpy (mcpy (mcpy M (l1 + 1) (0 : Int) (l0 + 1) (0 : Int) (6 : Int)) (l1 + 2) (0 : Int) (l0 + 2) (0 : Int) (6 : Int)) (l1 + 3) (0 : Int) (l0 + 3) (0 : Int) (6 : Int)) (l1 + 4) (0 : Int) (l0 + 4) (0 : Int) (6 : Int)) l0 4 ((mcpy (mcpy (mcpy (mcpy M (l1 + 1) (0 : Int) (l0 + 1) (0 : Int) (6 : Int)) (l1 + 2) (0 : Int) (l0 + 2) (0 : Int) (6 : Int)) (l1 + 3) (0 : Int) (l0 + 3) (0 : Int) (6 : Int)) (l1 + 4) (0 : Int) (l0 + 4) (0 : Int) (6 : Int)) l1 4)) l1 5)) K) : Wp d 30 0 [vR l0, vR l1] [] M K Q := by
  refine r_aload_n c30_0 rfl ?_
  refine r_getR c30_1 (oK hK k1) (fx3_0 hX k1) (by omega) ?_
  refine r_iconst c30_4 ?_
  refine r_aload_n c30_5 rfl ?_
  refine r_getR c30_6 (oK hK k0) (fx3_0 hX k0) (by omega) ?_
  refine r_iconst c30_9 ?_
  refine r_bipush c30_10 ?_
  refine r_cpy c30_12 ⟨(oK hK (q3_0 k1)), (oK hK (q3_0 k0)), by decide, by decide, by decide, by rw [(z3_0 k1)]; decide, by rw [(z3_0 k0)]; decide, Nat.le_of_ble_eq_true rfl⟩ ?_
  have x1 := FX.cpy (s := (l1 + 1)) (sp := (0 : Int)) (dp := (0 : Int)) (n := (6 : Int)) hX (nfa (q3_0 k0))
  refine r_aload_n c30_15 rfl ?_
  refine r_getR c30_16 (oK hK k1) (fx3_1 x1 k1) (by omega) ?_
  refine r_iconst c30_19 ?_
  refine r_aload_n c30_20 rfl ?_
  refine r_getR c30_21 (oK hK k0) (fx3_1 x1 k0) (by omega) ?_
  refine r_iconst c30_24 ?_
  refine r_bipush c30_25 ?_
  refine r_cpy c30_27 ⟨(oK hK (q3_1 k1)), (oK hK (q3_1 k0)), by decide, by decide, by decide, by rw [(z3_1 k1)]; decide, by rw [(z3_1 k0)]; decide, Nat.le_of_ble_eq_true rfl⟩ ?_
  have x2 := FX.cpy (s := (l1 + 2)) (sp := (0 : Int)) (dp := (0 : Int)) (n := (6 : Int)) x1 (nfa (q3_1 k0))
  refine r_aload_n c30_30 rfl ?_
  refine r_getR c30_31 (oK hK k1) (fx3_2 x2 k1) (by omega) ?_
  refine r_iconst c30_34 ?_
  refine r_aload_n c30_35 rfl ?_
  refine r_getR c30_36 (oK hK k0) (fx3_2 x2 k0) (by omega) ?_
  refine r_iconst c30_39 ?_
  refine r_bipush c30_40 ?_
  refine r_cpy c30_42 ⟨(oK hK (q3_2 k1)), (oK hK (q3_2 k0)), by decide, by decide, by decide, by rw [(z3_2 k1)]; decide, by rw [(z3_2 k0)]; decide, Nat.le_of_ble_eq_true rfl⟩ ?_
  have x3 := FX.cpy (s := (l1 + 3)) (sp := (0 : Int)) (dp := (0 : Int)) (n := (6 : Int)) x2 (nfa (q3_2 k0))
  refine r_aload_n c30_45 rfl ?_
  refine r_getR c30_46 (oK hK k1) (fx3_3 x3 k1) (by omega) ?_
  refine r_iconst c30_49 ?_
  refine r_aload_n c30_50 rfl ?_
  refine r_getR c30_51 (oK hK k0) (fx3_3 x3 k0) (by omega) ?_
  refine r_iconst c30_54 ?_
  refine r_bipush c30_55 ?_
  refine r_cpy c30_57 ⟨(oK hK (q3_3 k1)), (oK hK (q3_3 k0)), by decide, by decide, by decide, by rw [(z3_3 k1)]; decide, by rw [(z3_3 k0)]; decide, Nat.le_of_ble_eq_true rfl⟩ ?_
  have x4 := FX.cpy (s := (l1 + 4)) (sp := (0 : Int)) (dp := (0 : Int)) (n := (6 : Int)) x3 (nfa (q3_3 k0))
  refine r_aload_n c30_60 rfl ?_
  refine r_aload_n c30_61 rfl ?_
  refine r_getIe c30_62 (oK hK k1) rfl ?_
  refine r_putI c30_65 (oK hK k0) ?_
  have x5 := FX.set (v := ((mcpy (mcpy (mcpy (mcpy M (l1 + 1) (0 : Int) (l0 + 1) (0 : Int) (6 : Int)) (l1 + 2) (0 : Int) (l0 + 2) (0 : Int) (6 : Int)) (l1 + 3) (0 : Int) (l0 + 3) (0 : Int) (6 : Int)) (l1 + 4) (0 : Int) (l0 + 4) (0 : Int) (6 : Int)) l1 4)) (a := l0) (k := 4) x4 (nf3 k0 (by decide))
  refine r_aload_n c30_68 rfl ?_
  refine r_aload_n c30_69 rfl ?_
  refine r_getIe c30_70 (oK hK k1) rfl ?_
  refine r_putI c30_73 (oK hK k0) ?_
  have x6 := FX.set (v := ((mset (mcpy (mcpy (mcpy (mcpy M (l1 + 1) (0 : Int) (l0 + 1) (0 : Int) (6 : Int)) (l1 + 2) (0 : Int) (l0 + 2) (0 : Int) (6 : Int)) (l1 + 3) (0 : Int) (l0 + 3) (0 : Int) (6 : Int)) (l1 + 4) (0 : Int) (l0 + 4) (0 : Int) (6 : Int)) l0 4 ((mcpy (mcpy (mcpy (mcpy M (l1 + 1) (0 : Int) (l0 + 1) (0 : Int) (6 : Int)) (l1 + 2) (0 : Int) (l0 + 2) (0 : Int) (6 : Int)) (l1 + 3) (0 : Int) (l0 + 3) (0 : Int) (6 : Int)) (l1 + 4) (0 : Int) (l0 + 4) (0 : Int) (6 : Int)) l1 4)) l1 5)) (a := l0) (k := 5) x5 (nf3 k0 (by decide))
  exact r_ret c30_76 h
theorem u31_0 {d : Nat} {l0 : Nat} {l1 : Nat} {l2 : Int} {l3 : Int} {M : Mem} {K : KK} {Q : RR → Mem → KK → Prop} (hK : K.1 = 923) (hX : FX M) (k0 : isO 923 l0 3 = true) (k1 : isO 923 l1 0 = true) (h : (0 ≤ l2 ∧ l2 < (6 : Int)) ∧ (¬ (M (l0 + 2) (Int.toNat l2)) = (-1 : Int) → Q (.inl (some (vI (0 : Int)))) M K) ∧ ((M (l0 + 2) (Int.toNat l2)) = (-1 : Int) → ∃ c4 : Mem, ∃ s5 : Mem, ∃ p6 : Nat, (l2 = (p6 : Int) ∧ SKc M l1 l0 c4 s5 ∧ p6 < nSt c4 ∧ 0 ≤ l3 ∧ l3 ≤ 12) ∧ ((roomS c4 s5 p6 l3 = true) → (0 ≤ l2 ∧ l2 < (6 : Int)) ∧ Q (.inl (some (vI (1 : Int)))) (mset M (l0 + 2) (Int.toNat l2) l3) K) ∧ (¬ (roomS c4 s5 p6 l3 = true) → Q (.inl (some (vI (0 : Int)))) M K))) : Wp (d + 1) 31 0 [vR l0, vR l1, vI l2, vI l3] [] M K Q := by
  refine r_aload_n c31_0 rfl ?_
  refine r_getR c31_1 (oK hK k0) (fx3_1 hX k0) (by omega) ?_
  refine r_iload_n c31_4 rfl ?_
  obtain ⟨s1, h⟩ := h
  refine r_iae c31_5 (oK hK (q3_1 k0)) (bd (z3_1 k0) s1) rfl ?_
  refine r_iconst c31_6 ?_
  refine r_icmpP (P := ¬ (M (l0 + 2) (Int.toNat l2)) = (-1 : Int)) c31_7 rfl (fun hc2 => ?_) (fun hc2 => ?_)
  · replace h := h.1 hc2
    refine r_iconst c31_20 ?_
    exact r_iret c31_21 (by decide) h
  · have hc3 := Classical.not_not.mp hc2
    replace h := h.2 hc3
    refine r_aload_n c31_10 rfl ?_
    refine r_aload_n c31_11 rfl ?_
    refine r_iload_n c31_12 rfl ?_
    refine r_iload_n c31_13 rfl ?_
    obtain ⟨c4, h⟩ := h
    obtain ⟨s5, h⟩ := h
    obtain ⟨p6, h⟩ := h
    obtain ⟨p7, h⟩ := h
    refine r_call c31_14 rfl rfl (Nat.le_of_ble_eq_true rfl) (okc_r rfl rfl (oK hK k0)) (g37z hK hX k0 k1 p7 (Bk_v ?_))
    refine r_ifP (P := (roomS c4 s5 p6 l3 = true)) c31_17 bI_ne (fun hc8 => ?_) (fun hc8 => ?_)
    · replace h := h.1 hc8
      refine r_aload_n c31_22 rfl ?_
      refine r_getR c31_23 (oK hK k0) (fx3_1 hX k0) (by omega) ?_
      refine r_iload_n c31_26 rfl ?_
      refine r_iload_n c31_27 rfl ?_
      obtain ⟨s9, h⟩ := h
      refine r_ias c31_28 (oK hK (q3_1 k0)) (bd (z3_1 k0) s9) ?_
      have x10 := FX.set (v := l3) (a := (l0 + 2)) (k := (Int.toNat l2)) hX (nfa (q3_1 k0) _)
      refine r_iconst c31_29 ?_
      exact r_iret c31_30 (by decide) h
    · replace h := h.2 hc8
      refine r_iconst c31_20 ?_
      exact r_iret c31_21 (by decide) h
theorem u32_0 {d : Nat} {l0 : Nat} {l1 : Int} {M : Mem} {K : KK} {Q : RR → Mem → KK → Prop} (hK : K.1 = 923) (hX : FX M) (k0 : isO 923 l0 3 = true) (h : (0 ≤ l1 ∧ l1 < (6 : Int)) ∧ (¬ (M (l0 + 2) (Int.toNat l1)) = (-1 : Int) → (0 ≤ l1 ∧ l1 < (6 : Int)) ∧ (0 ≤ l1 ∧ l1 < (6 : Int)) ∧ (0 ≤ l1 ∧ l1 < (6 : Int)) ∧ Q (.inl (some (vI (1 : Int)))) (mset (mset (mset M (l0 + 2) (Int.toNat l1) (-1 : Int)) (l0 + 3) (Int.toNat l1) (0 : Int)) (l0 + 4) (Int.toNat l1) (0 : Int)) K) ∧ ((M (l0 + 2) (Int.toNat l1)) = (-1 : Int) → Q (.inl (some (vI (0 : Int)))) M K)) : Wp d 32 0 [vR l0, vI l1] [] M K Q := by
  refine r_aload_n c32_0 rfl ?_
  refine r_getR c32_1 (oK hK k0) (fx3_1 hX k0) (by omega) ?_
  refine r_iload_n c32_4 rfl ?_
  obtain ⟨s1, h⟩ := h
  refine r_iae c32_5 (oK hK (q3_1 k0)) (bd (z3_1 k0) s1) rfl ?_
  refine r_iconst c32_6 ?_
  refine r_icmpP (P := ¬ (M (l0 + 2) (Int.toNat l1)) = (-1 : Int)) c32_7 rfl (fun hc2 => ?_) (fun hc2 => ?_)
  · replace h := h.1 hc2
    refine r_aload_n c32_12 rfl ?_
    refine r_getR c32_13 (oK hK k0) (fx3_1 hX k0) (by omega) ?_
    refine r_iload_n c32_16 rfl ?_
    refine r_iconst c32_17 ?_
    obtain ⟨s4, h⟩ := h
    refine r_ias c32_18 (oK hK (q3_1 k0)) (bd (z3_1 k0) s4) ?_
    have x5 := FX.set (v := (-1 : Int)) (a := (l0 + 2)) (k := (Int.toNat l1)) hX (nfa (q3_1 k0) _)
    refine r_aload_n c32_19 rfl ?_
    refine r_getR c32_20 (oK hK k0) (fx3_2 x5 k0) (by omega) ?_
    refine r_iload_n c32_23 rfl ?_
    refine r_iconst c32_24 ?_
    obtain ⟨s6, h⟩ := h
    refine r_ias c32_25 (oK hK (q3_2 k0)) (bd (z3_2 k0) s6) ?_
    have x7 := FX.set (v := (0 : Int)) (a := (l0 + 3)) (k := (Int.toNat l1)) x5 (nfa (q3_2 k0) _)
    refine r_aload_n c32_26 rfl ?_
    refine r_getR c32_27 (oK hK k0) (fx3_3 x7 k0) (by omega) ?_
    refine r_iload_n c32_30 rfl ?_
    refine r_iconst c32_31 ?_
    obtain ⟨s8, h⟩ := h
    refine r_ias c32_32 (oK hK (q3_3 k0)) (bd (z3_3 k0) s8) ?_
    have x9 := FX.set (v := (0 : Int)) (a := (l0 + 4)) (k := (Int.toNat l1)) x7 (nfa (q3_3 k0) _)
    refine r_iconst c32_33 ?_
    exact r_iret c32_34 (by decide) h
  · have hc3 := Classical.not_not.mp hc2
    replace h := h.2 hc3
    refine r_iconst c32_10 ?_
    exact r_iret c32_11 (by decide) h
theorem u33_0 {d : Nat} {l0 : Nat} {l1 : Int} {M : Mem} {K : KK} {Q : RR → Mem → KK → Prop} (hK : K.1 = 923) (hX : FX M) (k0 : isO 923 l0 3 = true) (h : (0 ≤ l1 ∧ l1 < (6 : Int)) ∧ ((M (l0 + 2) (Int.toNat l1)) = (-1 : Int) → Q (.inl (some (vI (0 : Int)))) M K) ∧ (¬ ((M (l0 + 2) (Int.toNat l1)) = (-1 : Int)) → (0 ≤ l1 ∧ l1 < (6 : Int)) ∧ ((M (l0 + 3) (Int.toNat l1)) < (9 : Int) → (0 ≤ l1 ∧ l1 < (6 : Int)) ∧ (0 ≤ l1 ∧ l1 < (6 : Int)) ∧ Q (.inl (some (vI (1 : Int)))) (mset M (l0 + 3) (Int.toNat l1) (w32 ((M (l0 + 3) (Int.toNat l1)) + (1 : Int)))) K) ∧ (¬ ((M (l0 + 3) (Int.toNat l1)) < (9 : Int)) → Q (.inl (some (vI (0 : Int)))) M K))) : Wp d 33 0 [vR l0, vI l1] [] M K Q := by
  refine r_aload_n c33_0 rfl ?_
  refine r_getR c33_1 (oK hK k0) (fx3_1 hX k0) (by omega) ?_
  refine r_iload_n c33_4 rfl ?_
  obtain ⟨s1, h⟩ := h
  refine r_iae c33_5 (oK hK (q3_1 k0)) (bd (z3_1 k0) s1) rfl ?_
  refine r_iconst c33_6 ?_
  refine r_icmpP (P := (M (l0 + 2) (Int.toNat l1)) = (-1 : Int)) c33_7 rfl (fun hc2 => ?_) (fun hc2 => ?_)
  · replace h := h.1 hc2
    refine r_iconst c33_21 ?_
    exact r_iret c33_22 (by decide) h
  · replace h := h.2 hc2
    refine r_aload_n c33_10 rfl ?_
    refine r_getR c33_11 (oK hK k0) (fx3_2 hX k0) (by omega) ?_
    refine r_iload_n c33_14 rfl ?_
    obtain ⟨s3, h⟩ := h
    refine r_iae c33_15 (oK hK (q3_2 k0)) (bd (z3_2 k0) s3) rfl ?_
    refine r_bipush c33_16 ?_
    refine r_icmpP (P := (M (l0 + 3) (Int.toNat l1)) < (9 : Int)) c33_18 rfl (fun hc4 => ?_) (fun hc4 => ?_)
    · replace h := h.1 hc4
      refine r_aload_n c33_23 rfl ?_
      refine r_getR c33_24 (oK hK k0) (fx3_2 hX k0) (by omega) ?_
      refine r_iload_n c33_27 rfl ?_
      refine r_dup2 c33_28 ?_
      obtain ⟨s5, h⟩ := h
      refine r_iae c33_29 (oK hK (q3_2 k0)) (bd (z3_2 k0) s5) rfl ?_
      refine r_iconst c33_30 ?_
      refine r_iadd c33_31 ?_
      obtain ⟨s6, h⟩ := h
      refine r_ias c33_32 (oK hK (q3_2 k0)) (bd (z3_2 k0) s6) ?_
      have x7 := FX.set (v := (w32 ((M (l0 + 3) (Int.toNat l1)) + (1 : Int)))) (a := (l0 + 3)) (k := (Int.toNat l1)) hX (nfa (q3_2 k0) _)
      refine r_iconst c33_33 ?_
      exact r_iret c33_34 (by decide) h
    · replace h := h.2 hc4
      refine r_iconst c33_21 ?_
      exact r_iret c33_22 (by decide) h
theorem u34_0 {d : Nat} {l0 : Nat} {l1 : Int} {M : Mem} {K : KK} {Q : RR → Mem → KK → Prop} (hK : K.1 = 923) (hX : FX M) (k0 : isO 923 l0 3 = true) (h : (0 ≤ l1 ∧ l1 < (6 : Int)) ∧ ((M (l0 + 2) (Int.toNat l1)) = (-1 : Int) → Q (.inl (some (vI (0 : Int)))) M K) ∧ (¬ ((M (l0 + 2) (Int.toNat l1)) = (-1 : Int)) → (0 ≤ l1 ∧ l1 < (6 : Int)) ∧ ((M (l0 + 4) (Int.toNat l1)) = (1 : Int) → Q (.inl (some (vI (0 : Int)))) M K) ∧ (¬ ((M (l0 + 4) (Int.toNat l1)) = (1 : Int)) → ((0 : Int) < (M l0 5) → (0 ≤ l1 ∧ l1 < (6 : Int)) ∧ Q (.inl (some (vI (1 : Int)))) (mset (mset M (l0 + 4) (Int.toNat l1) (1 : Int)) l0 5 (w32 ((M l0 5) - (1 : Int)))) K) ∧ (¬ ((0 : Int) < (M l0 5)) → Q (.inl (some (vI (0 : Int)))) M K)))) : Wp d 34 0 [vR l0, vI l1] [] M K Q := by
  refine r_aload_n c34_0 rfl ?_
  refine r_getR c34_1 (oK hK k0) (fx3_1 hX k0) (by omega) ?_
  refine r_iload_n c34_4 rfl ?_
  obtain ⟨s1, h⟩ := h
  refine r_iae c34_5 (oK hK (q3_1 k0)) (bd (z3_1 k0) s1) rfl ?_
  refine r_iconst c34_6 ?_
  refine r_icmpP (P := (M (l0 + 2) (Int.toNat l1)) = (-1 : Int)) c34_7 rfl (fun hc2 => ?_) (fun hc2 => ?_)
  · replace h := h.1 hc2
    refine r_iconst c34_27 ?_
    exact r_iret c34_28 (by decide) h
  · replace h := h.2 hc2
    refine r_aload_n c34_10 rfl ?_
    refine r_getR c34_11 (oK hK k0) (fx3_3 hX k0) (by omega) ?_
    refine r_iload_n c34_14 rfl ?_
    obtain ⟨s3, h⟩ := h
    refine r_iae c34_15 (oK hK (q3_3 k0)) (bd (z3_3 k0) s3) rfl ?_
    refine r_iconst c34_16 ?_
    refine r_icmpP (P := (M (l0 + 4) (Int.toNat l1)) = (1 : Int)) c34_17 rfl (fun hc4 => ?_) (fun hc4 => ?_)
    · replace h := h.1 hc4
      refine r_iconst c34_27 ?_
      exact r_iret c34_28 (by decide) h
    · replace h := h.2 hc4
      refine r_aload_n c34_20 rfl ?_
      refine r_getIe c34_21 (oK hK k0) rfl ?_
      refine r_ifP (P := (0 : Int) < (M l0 5)) c34_24 rfl (fun hc5 => ?_) (fun hc5 => ?_)
      · replace h := h.1 hc5
        refine r_aload_n c34_29 rfl ?_
        refine r_getR c34_30 (oK hK k0) (fx3_3 hX k0) (by omega) ?_
        refine r_iload_n c34_33 rfl ?_
        refine r_iconst c34_34 ?_
        obtain ⟨s6, h⟩ := h
        refine r_ias c34_35 (oK hK (q3_3 k0)) (bd (z3_3 k0) s6) ?_
        have x7 := FX.set (v := (1 : Int)) (a := (l0 + 4)) (k := (Int.toNat l1)) hX (nfa (q3_3 k0) _)
        refine r_aload_n c34_36 rfl ?_
        refine r_dupr c34_37 ?_
        refine r_getIe c34_38 (oK hK k0) (ms_na (by omega)) ?_
        refine r_iconst c34_41 ?_
        refine r_isub c34_42 ?_
        refine r_putI c34_43 (oK hK k0) ?_
        have x8 := FX.set (v := (w32 ((M l0 5) - (1 : Int)))) (a := l0) (k := 5) x7 (nf3 k0 (by decide))
        refine r_iconst c34_46 ?_
        exact r_iret c34_47 (by decide) h
      · replace h := h.2 hc5
        refine r_iconst c34_27 ?_
        exact r_iret c34_28 (by decide) h
section ST
variable {d : Nat} {M : Mem} {K : KK} {Q : RR → Mem → KK → Prop} {cm a a' l p : Nat} {c s : Mem} {L : LC}
theorem g29 (hK : K.1 = 923) (hX : FX M) (ha : isO 923 a 3 = true) (hcm : isO 923 cm 0 = true) (h : CC M cm c ∧ CW c) (k : ∀ M', FX M' → (FrI a M M' ∧ LK M' a c (begS c)) → Q (.inl none) M' K) : Wm d 29 [vR a, vR cm] M K Q := by
  obtain ⟨hc, hw⟩ := h
  have hn := hw.n.1
  have hr3 := rg3 ha
  have hr0 := rg0 hcm
  have e9 : M cm 9 = c 0 4 := hc.1 4 (by decide)
  refine u29_0 hK hX ha hcm ?_
  have loop : ∀ f i, i + f = 6 → ∀ M1, FX M1 → FrI a M M1 → M1 a 4 = 0 → M1 a 5 = c 0 4 → (∀ q, q < i → M1 (a + 2) q = -1 ∧ (q < nSt c → M1 (a + 1) q = c 3 q) ∧ M1 (a + 3) q = 0 ∧ M1 (a + 4) q = 0) → Wp d 29 15 [vR a, vR cm, vI (i : Int)] [] M1 K Q := by
    intro f
    induction f with
    | zero =>
      intro i hi M1 x1 f1 e4 e5 h1
      refine u29_15 hK x1 ha hcm ⟨fun _ => k _ x1 ⟨f1, fun q hq => ?_, e4, e5⟩, fun h => by omega⟩
      obtain ⟨q1, q2, q3, q4⟩ := h1 q (by omega)
      exact ⟨q1, q2 hq, q3, q4⟩
    | succ f ih =>
      intro i hi M1 x1 f1 e4 e5 h1
      have hi6 : 0 ≤ (i : Int) ∧ (i : Int) < 6 := by omega
      refine u29_15 hK x1 ha hcm ⟨fun h => by omega, fun _ => ⟨hi6, hi6, hi6, hi6, hi6, ?_⟩⟩
      rw [Int.toNat_natCast, w1 (by omega)]
      refine ih (i + 1) (by omega) _ ((((x1.set (nfa (q3_0 ha) _)).set (nfa (q3_1 ha) _)).set (nfa (q3_2 ha) _)).set (nfa (q3_3 ha) _)) ((((f1.up (by omega)).up (by omega)).up (by omega)).up (by omega)) ?_ ?_ (fun q hq => ?_)
      · rw [ms_na (by omega), ms_na (by omega), ms_na (by omega), ms_na (by omega)]; exact e4
      · rw [ms_na (by omega), ms_na (by omega), ms_na (by omega), ms_na (by omega)]; exact e5
      · by_cases hqi : q = i
        · subst hqi
          refine ⟨?_, fun hq' => ?_, ?_, ?_⟩
          · rw [ms_na (by omega), ms_na (by omega), ms_eq]
          · rw [ms_na (by omega), ms_na (by omega), ms_na (by omega), ms_eq, f1 _ _ (by unfold scL; omega) (by omega)]
            exact hc.a3 (by omega)
          · rw [ms_na (by omega), ms_eq]
          · rw [ms_eq]
        · obtain ⟨q1, q2, q3, q4⟩ := h1 q (by omega)
          refine ⟨?_, fun hq' => ?_, ?_, ?_⟩
          · rw [ms_na (by omega), ms_na (by omega), ms_nk hqi, ms_na (by omega)]; exact q1
          · rw [ms_na (by omega), ms_na (by omega), ms_na (by omega), ms_nk hqi]; exact q2 hq'
          · rw [ms_na (by omega), ms_nk hqi, ms_na (by omega), ms_na (by omega)]; exact q3
          · rw [ms_nk hqi, ms_na (by omega), ms_na (by omega), ms_na (by omega)]; exact q4
  refine loop 6 0 rfl _ ((hX.set (nf3 ha (by decide))).set (nf3 ha (by decide))) ((FrI.rf.up (by omega)).up (by omega)) ?_ ?_ (fun q hq => by omega)
  · rw [ms_nk (by decide), ms_eq]
  · rw [ms_eq, e9]
theorem g30 (hK : K.1 = 923) (hX : FX M) (ha : isO 923 a 3 = true) (ha' : isO 923 a' 3 = true) (h : (a + 4 < a' ∨ a' + 4 < a) ∧ CW c ∧ LK M a' c s) (k : ∀ M', FX M' → (FrI a M M' ∧ LK M' a c s ∧ (∀ b j, a' ≤ b → b ≤ a' + 4 → M' b j = M b j)) → Q (.inl none) M' K) : Wm d 30 [vR a, vR a'] M K Q := by
  obtain ⟨hd, hw, hl⟩ := h
  have hn := hw.n.1
  have hr3 := rg3 ha
  have hr3' := rg3 ha'
  refine u30_0 hK hX ha ha' ?_
  refine k _ ?_ ⟨?_, ⟨fun q hq => ?_, ?_, ?_⟩, fun b j h1 h2 => ?_⟩
  · exact (((((hX.cpy (nfa (q3_0 ha))).cpy (nfa (q3_1 ha))).cpy (nfa (q3_2 ha))).cpy (nfa (q3_3 ha))).set (nf3 ha (by decide))).set (nf3 ha (by decide))
  · exact ((((FrI.rf.cp (by omega)).cp (by omega)).cp (by omega)).cp (by omega) |>.up (by omega)).up (by omega)
  · obtain ⟨q0, q1, q2, q3⟩ := hl.1 q hq
    have hq6 : q < 6 := by omega
    refine ⟨?_, ?_, ?_, ?_⟩
    · rw [ms_na (by omega), ms_na (by omega), mcpy_na (by omega), mcpy_na (by omega), mcpy_eq hq6, mcpy_na (by omega)]; exact q0
    · rw [ms_na (by omega), ms_na (by omega), mcpy_na (by omega), mcpy_na (by omega), mcpy_na (by omega), mcpy_eq hq6]; exact q1
    · rw [ms_na (by omega), ms_na (by omega), mcpy_na (by omega), mcpy_eq hq6, mcpy_na (by omega), mcpy_na (by omega)]; exact q2
    · rw [ms_na (by omega), ms_na (by omega), mcpy_eq hq6, mcpy_na (by omega), mcpy_na (by omega), mcpy_na (by omega)]; exact q3
  · rw [ms_nk (by decide), ms_eq, mcpy_na (by omega), mcpy_na (by omega), mcpy_na (by omega), mcpy_na (by omega)]; exact hl.2.1
  · rw [ms_eq, ms_na (by omega), mcpy_na (by omega), mcpy_na (by omega), mcpy_na (by omega), mcpy_na (by omega)]; exact hl.2.2
  · rw [ms_na (by omega), ms_na (by omega), mcpy_na (by omega), mcpy_na (by omega), mcpy_na (by omega), mcpy_na (by omega)]
theorem g31 {x : Int} (hK : K.1 = 923) (hX : FX M) (ha : isO 923 a 3 = true) (hcm : isO 923 cm 0 = true) (h : SKc M cm a c s ∧ p < nSt c ∧ 0 ≤ x ∧ x ≤ 12) (k : ∀ M', FX M' → (FrI a M M' ∧ LK M' a c ((layS c s p x).getD s)) → Q (.inl (some (vI (bI ((layS c s p x).isSome = true))))) M' K) : Wm (d + 1) 31 [vR a, vR cm, vI (p : Int), vI x] M K Q := by
  obtain ⟨hs, hp, hx⟩ := h
  have hs' := hs
  obtain ⟨hc, hw, hl, hlw⟩ := hs'
  have hn := hw.n.1
  obtain ⟨f0, -⟩ := hl.1 p hp
  have hb : 0 ≤ (p : Int) ∧ (p : Int) < 6 := by omega
  have no : ¬ (s 0 p = -1 ∧ roomS c s p x = true) → Q (.inl (some (vI 0))) M K := by
    intro hno
    have e : layS c s p x = none := by unfold layS; rw [if_neg hno]
    rw [e] at k
    rw [bI_f (by simp)] at k
    exact k M hX ⟨FrI.rf, hl⟩
  refine u31_0 hK hX ha hcm ⟨hb, fun h => no ?_, fun h => ⟨c, s, p, ⟨rfl, hs, hp, hx⟩, fun hr => ⟨hb, ?_⟩, fun hr => no (fun h => hr h.2)⟩⟩
  · rw [Int.toNat_natCast, f0] at h; exact fun h' => h h'.1
  · rw [Int.toNat_natCast, f0] at h
    have e : layS c s p x = some (mset s 0 p x) := by unfold layS; rw [if_pos ⟨h, hr⟩]
    rw [e] at k
    rw [bI_t (by simp)] at k
    rw [Int.toNat_natCast]
    exact k _ (hX.set (nfa (q3_1 ha) _)) ⟨FrI.rf.up (by omega), hl.set1 (b := 0) (by decide)⟩
theorem g32 (hK : K.1 = 923) (hX : FX M) (ha : isO 923 a 3 = true) (h : CW c ∧ LK M a c s ∧ p < nSt c) (k : ∀ M', FX M' → (FrI a M M' ∧ LK M' a c ((foldS s p).getD s)) → Q (.inl (some (vI (bI ((foldS s p).isSome = true))))) M' K) : Wm d 32 [vR a, vI (p : Int)] M K Q := by
  obtain ⟨hw, hl, hp⟩ := h
  have hn := hw.n.1
  have hr3 := rg3 ha
  obtain ⟨f0, -⟩ := hl.1 p hp
  have hb : 0 ≤ (p : Int) ∧ (p : Int) < 6 := by omega
  unfold foldS at k
  refine u32_0 hK hX ha ⟨hb, fun h => ⟨hb, hb, hb, ?_⟩, fun h => ?_⟩
  · rw [Int.toNat_natCast, f0] at h
    rw [if_neg h, bI_t (by simp)] at k
    rw [Int.toNat_natCast]
    exact k _ (((hX.set (nfa (q3_1 ha) _)).set (nfa (q3_2 ha) _)).set (nfa (q3_3 ha) _)) ⟨((FrI.rf.up (by omega)).up (by omega)).up (by omega), ((hl.set1 (b := 0) (by decide)).set1 (b := 2) (by decide)).set1 (b := 3) (by decide)⟩
  · rw [Int.toNat_natCast, f0] at h
    rw [if_pos h, bI_f (by simp)] at k
    exact k M hX ⟨FrI.rf, hl⟩
theorem g33 (hK : K.1 = 923) (hX : FX M) (ha : isO 923 a 3 = true) (h : CW c ∧ LK M a c s ∧ LW c s ∧ p < nSt c) (k : ∀ M', FX M' → (FrI a M M' ∧ LK M' a c ((wetS s p).getD s)) → Q (.inl (some (vI (bI ((wetS s p).isSome = true))))) M' K) : Wm d 33 [vR a, vI (p : Int)] M K Q := by
  obtain ⟨hw, hl, hlw, hp⟩ := h
  have hn := hw.n.1
  have hr3 := rg3 ha
  obtain ⟨f0, -, f2, -⟩ := hl.1 p hp
  obtain ⟨-, -, w2, -⟩ := hlw.1 p hp
  have hb : 0 ≤ (p : Int) ∧ (p : Int) < 6 := by omega
  unfold wetS at k
  refine u33_0 hK hX ha ⟨hb, fun h => ?_, fun h => ⟨hb, fun h2 => ⟨hb, hb, ?_⟩, fun h2 => ?_⟩⟩
  · rw [Int.toNat_natCast, f0] at h
    rw [if_neg (fun h' => h'.1 h), bI_f (by simp)] at k
    exact k M hX ⟨FrI.rf, hl⟩
  · rw [Int.toNat_natCast] at h h2 ⊢
    rw [f0] at h
    rw [f2] at h2
    rw [if_pos ⟨h, h2⟩, bI_t (by simp)] at k
    rw [f2, w32_id (by omega)]
    exact k _ (hX.set (nfa (q3_2 ha) _)) ⟨FrI.rf.up (by omega), hl.set1 (b := 2) (by decide)⟩
  · rw [Int.toNat_natCast, f2] at h2
    rw [if_neg (fun h' => h2 h'.2), bI_f (by simp)] at k
    exact k M hX ⟨FrI.rf, hl⟩
theorem LK.milk (h : LK M a c s) {v : Int} : LK (mset M a 5 v) a c (mset s 4 1 v) := by
  refine ⟨fun q hq => ?_, ?_, ?_⟩
  · have := h.1 q hq
    rw [ms_na (by omega), ms_na (by omega), ms_na (by omega), ms_na (by omega)]
    simpa [mset] using this
  · rw [ms_nk (by decide), ms_nk (by decide)]; exact h.2.1
  · rw [ms_eq, ms_eq]
theorem g34 (hK : K.1 = 923) (hX : FX M) (ha : isO 923 a 3 = true) (h : CW c ∧ LK M a c s ∧ LW c s ∧ p < nSt c) (k : ∀ M', FX M' → (FrI a M M' ∧ LK M' a c ((milkS s p).getD s)) → Q (.inl (some (vI (bI ((milkS s p).isSome = true))))) M' K) : Wm d 34 [vR a, vI (p : Int)] M K Q := by
  obtain ⟨hw, hl, hlw, hp⟩ := h
  have hn := hw.n.1
  have hr3 := rg3 ha
  obtain ⟨f0, -, -, f3⟩ := hl.1 p hp
  have e5 := hl.2.2
  have w5 := hlw.2.2.1
  have hb : 0 ≤ (p : Int) ∧ (p : Int) < 6 := by omega
  unfold milkS at k
  refine u34_0 hK hX ha ⟨hb, fun h => ?_, fun h => ⟨hb, fun h2 => ?_, fun h2 => ⟨fun h3 => ⟨hb, ?_⟩, fun h3 => ?_⟩⟩⟩
  · rw [Int.toNat_natCast, f0] at h
    rw [if_neg (fun h' => h'.1 h), bI_f (by simp)] at k
    exact k M hX ⟨FrI.rf, hl⟩
  · rw [Int.toNat_natCast, f3] at h2
    rw [if_neg (fun h' => h'.2.1 h2), bI_f (by simp)] at k
    exact k M hX ⟨FrI.rf, hl⟩
  · rw [Int.toNat_natCast] at h h2 ⊢
    rw [f0] at h
    rw [f3] at h2
    rw [e5] at h3 ⊢
    rw [if_pos ⟨h, h2, h3⟩, bI_t (by simp)] at k
    rw [w32_id (by omega)]
    exact k _ ((hX.set (nfa (q3_3 ha) _)).set (nf3 ha (by decide))) ⟨(FrI.rf.up (by omega)).up (by omega), (hl.set1 (b := 3) (by decide)).milk⟩
  · rw [e5] at h3
    rw [if_neg (fun h' => h3 h'.2.2), bI_f (by simp)] at k
    exact k M hX ⟨FrI.rf, hl⟩
theorem g31z {v x : Int} (hK : K.1 = 923) (hX : FX M) (ha : isO 923 a 3 = true) (hcm : isO 923 cm 0 = true) (h : v = (p : Int) ∧ SKc M cm a c s ∧ p < nSt c ∧ 0 ≤ x ∧ x ≤ 12) (k : ∀ M', FX M' → (FrI a M M' ∧ LK M' a c ((layS c s p x).getD s)) → Q (.inl (some (vI (bI ((layS c s p x).isSome = true))))) M' K) : Wm (d + 1) 31 [vR a, vR cm, vI v, vI x] M K Q := by
  rw [h.1]; exact g31 hK hX ha hcm h.2 k
theorem g32z {v : Int} (hK : K.1 = 923) (hX : FX M) (ha : isO 923 a 3 = true) (h : v = (p : Int) ∧ CW c ∧ LK M a c s ∧ p < nSt c) (k : ∀ M', FX M' → (FrI a M M' ∧ LK M' a c ((foldS s p).getD s)) → Q (.inl (some (vI (bI ((foldS s p).isSome = true))))) M' K) : Wm d 32 [vR a, vI v] M K Q := by
  rw [h.1]; exact g32 hK hX ha h.2 k
theorem g33z {v : Int} (hK : K.1 = 923) (hX : FX M) (ha : isO 923 a 3 = true) (h : v = (p : Int) ∧ CW c ∧ LK M a c s ∧ LW c s ∧ p < nSt c) (k : ∀ M', FX M' → (FrI a M M' ∧ LK M' a c ((wetS s p).getD s)) → Q (.inl (some (vI (bI ((wetS s p).isSome = true))))) M' K) : Wm d 33 [vR a, vI v] M K Q := by
  rw [h.1]; exact g33 hK hX ha h.2 k
theorem g34z {v : Int} (hK : K.1 = 923) (hX : FX M) (ha : isO 923 a 3 = true) (h : v = (p : Int) ∧ CW c ∧ LK M a c s ∧ LW c s ∧ p < nSt c) (k : ∀ M', FX M' → (FrI a M M' ∧ LK M' a c ((milkS s p).getD s)) → Q (.inl (some (vI (bI ((milkS s p).isSome = true))))) M' K) : Wm d 34 [vR a, vI v] M K Q := by
  rw [h.1]; exact g34 hK hX ha h.2 k
end ST
