/-! the class's tape -/
/-- the tape's state: bytes B, n of them, read up to st -/
def TR (B : BY) (n : Nat) (M : Mem) (st : ST) : Prop := M 33 2 = (n : Int) ∧ n ≤ 600 ∧ (∀ i, i < n → M 34 i = B i) ∧ ∃ a : Nat, M 33 3 = (a : Int) ∧ a ≤ n ∧ match st with
  | .inl p => (M 33 6 = 0 ∧ M 33 7 = -1) ∧ sk B n a = p
  | .inr f => M 33 6 = f.1 ∧ M 33 7 = f.2 ∧ f.1 ≠ 0
/-- only the reading's own fields of the tape have changed -/
def FrT (M M' : Mem) : Prop := ∀ a k, ¬ (a = 33 ∧ 3 ≤ k ∧ k ≤ 7) → M' a k = M a k
theorem FrT.rf {M : Mem} : FrT M M := fun _ _ _ => rfl
theorem FrT.tr {M M1 M2 : Mem} (h1 : FrT M M1) (h2 : FrT M1 M2) : FrT M M2 := fun a k h => (h2 a k h).trans (h1 a k h)
theorem FrT.up {M M1 : Mem} {k : Nat} {v : Int} (h1 : FrT M M1) (hk : 3 ≤ k ∧ k ≤ 7) : FrT M (mset M1 33 k v) := by
  intro a' k' h
  unfold mset
  rw [if_neg (by rintro ⟨rfl, rfl⟩; exact h ⟨rfl, hk⟩)]
  exact h1 a' k' h
theorem FrT.fx {M M' : Mem} (h : FrT M M') (hX : FX M) : FX M' := hX.fr (fun a k hk => h a k (by
  rintro ⟨rfl, h1, h2⟩
  have : ∀ k, k < 8 → 3 ≤ k → fxT 33 k = 0 := by decide +kernel
  have := this k (by omega) h1
  omega))
theorem u85_0 {d : Nat}  {M : Mem} {K : KK} {Q : RR → Mem → KK → Prop} (hK : K.1 = 923) (hX : FX M)  (h : ((M 33 6) = (0 : Int) → Q (.inl (some (vI (0 : Int)))) M K) ∧ (¬ ((M 33 6) = (0 : Int)) → Q (.inl (some (vI (1 : Int)))) M K)) : Wp d 85 0 [vR 33] [] M K Q := by
  refine r_aload_n c85_0 rfl ?_
  refine r_getIe c85_1 (oK hK o33) rfl ?_
  refine r_ifP (P := (M 33 6) = (0 : Int)) c85_4 rfl (fun hc1 => ?_) (fun hc1 => ?_)
  · replace h := h.1 hc1
    refine r_iconst c85_11 ?_
    exact r_iret c85_12 (by decide) h
  · replace h := h.2 hc1
    refine r_iconst c85_7 ?_
    refine r_goto c85_8 ?_
    exact r_iret c85_12 (by decide) h
theorem u86_0 {d : Nat}  {M : Mem} {K : KK} {Q : RR → Mem → KK → Prop} (hK : K.1 = 923) (hX : FX M)  (h : Q (.inl (some (vI (w32 ((M 33 6) - (10 : Int)))))) M K) : Wp d 86 0 [vR 33] [] M K Q := by
  refine r_aload_n c86_0 rfl ?_
  refine r_getIe c86_1 (oK hK o33) rfl ?_
  refine r_bipush c86_4 ?_
  refine r_isub c86_6 ?_
  exact r_iret c86_7 (Or.inl rfl) h
theorem u87_0 {d : Nat} {l1 : Int} {l2 : Int} {M : Mem} {K : KK} {Q : RR → Mem → KK → Prop} (hK : K.1 = 923) (hX : FX M)  (h : (¬ (M 33 6) = (0 : Int) → Q (.inl none) M K) ∧ ((M 33 6) = (0 : Int) → Q (.inl none) (mset (mset M 33 6 l1) 33 7 l2) K)) : Wp d 87 0 [vR 33, vI l1, vI l2] [] M K Q := by
  refine r_aload_n c87_0 rfl ?_
  refine r_getIe c87_1 (oK hK o33) rfl ?_
  refine r_ifP (P := ¬ (M 33 6) = (0 : Int)) c87_4 rfl (fun hc1 => ?_) (fun hc1 => ?_)
  · replace h := h.1 hc1
    exact r_ret c87_17 h
  · have hc2 := Classical.not_not.mp hc1
    replace h := h.2 hc2
    refine r_aload_n c87_7 rfl ?_
    refine r_iload_n c87_8 rfl ?_
    refine r_putI c87_9 (oK hK o33) ?_
    have x3 := FX.set (v := l1) (a := 33) (k := 6) hX (by decide +kernel)
    refine r_aload_n c87_12 rfl ?_
    refine r_iload_n c87_13 rfl ?_
    refine r_putI c87_14 (oK hK o33) ?_
    have x4 := FX.set (v := l2) (a := 33) (k := 7) x3 (by decide +kernel)
    exact r_ret c87_17 h
theorem u88_0 {d : Nat}  {M : Mem} {K : KK} {Q : RR → Mem → KK → Prop} (hK : K.1 = 923) (hX : FX M)  (h : Wp d 88 5 [vR 33, vI (M 33 3)] [] M K Q) : Wp d 88 0 [vR 33, vU] [] M K Q := by
  refine r_aload_n c88_0 rfl ?_
  refine r_getIe c88_1 (oK hK o33) rfl ?_
  refine r_istore_n c88_4 (Nat.le_of_ble_eq_true rfl) ?_
  exact h
theorem u88_5 {d : Nat} {l1 : Int} {M : Mem} {K : KK} {Q : RR → Mem → KK → Prop} (hK : K.1 = 923) (hX : FX M)  (h : ((M 33 2) ≤ l1 → (¬ (M 33 6) = (0 : Int) → Q (.inl (some (vI (-1 : Int)))) M K) ∧ ((M 33 6) = (0 : Int) → ((M 33 3) < (M 33 2) → (0 ≤ (M 33 3) ∧ (M 33 3) < (600 : Int)) ∧ Q (.inl (some (vI (M 34 (Int.toNat (M 33 3)))))) M K) ∧ (¬ ((M 33 3) < (M 33 2)) → Q (.inl (some (vI (-1 : Int)))) M K))) ∧ (¬ ((M 33 2) ≤ l1) → (0 ≤ l1 ∧ l1 < (600 : Int)) ∧ (¬ (M 34 (Int.toNat l1)) = (32 : Int) → (¬ (M 33 6) = (0 : Int) → Q (.inl (some (vI (-1 : Int)))) M K) ∧ ((M 33 6) = (0 : Int) → ((M 33 3) < (M 33 2) → (0 ≤ (M 33 3) ∧ (M 33 3) < (600 : Int)) ∧ Q (.inl (some (vI (M 34 (Int.toNat (M 33 3)))))) M K) ∧ (¬ ((M 33 3) < (M 33 2)) → Q (.inl (some (vI (-1 : Int)))) M K))) ∧ ((M 34 (Int.toNat l1)) = (32 : Int) → Wp d 88 5 [vR 33, vI (w32 (l1 + 1))] [] (mset M 33 3 (w32 (l1 + (1 : Int)))) K Q))) : Wp d 88 5 [vR 33, vI l1] [] M K Q := by
  refine r_iload_n c88_5 rfl ?_
  refine r_aload_n c88_6 rfl ?_
  refine r_getIe c88_7 (oK hK o33) rfl ?_
  refine r_icmpP (P := (M 33 2) ≤ l1) c88_10 rfl (fun hc1 => ?_) (fun hc1 => ?_)
  · replace h := h.1 hc1
    refine r_aload_n c88_37 rfl ?_
    refine r_getIe c88_38 (oK hK o33) rfl ?_
    refine r_ifP (P := ¬ (M 33 6) = (0 : Int)) c88_41 rfl (fun hc2 => ?_) (fun hc2 => ?_)
    · replace h := h.1 hc2
      refine r_iconst c88_55 ?_
      refine r_goto c88_56 ?_
      exact r_iret c88_68 (Or.inl rfl) h
    · have hc3 := Classical.not_not.mp hc2
      replace h := h.2 hc3
      refine r_aload_n c88_44 rfl ?_
      refine r_getIe c88_45 (oK hK o33) rfl ?_
      refine r_aload_n c88_48 rfl ?_
      refine r_getIe c88_49 (oK hK o33) rfl ?_
      refine r_icmpP (P := (M 33 3) < (M 33 2)) c88_52 rfl (fun hc4 => ?_) (fun hc4 => ?_)
      · replace h := h.1 hc4
        refine r_aload_n c88_59 rfl ?_
        refine r_getR c88_60 (oK hK o33) (FX.get (b := 34) hX (by decide) (by decide +kernel) (by decide)) (by decide) ?_
        refine r_aload_n c88_63 rfl ?_
        refine r_getIe c88_64 (oK hK o33) rfl ?_
        obtain ⟨s5, h⟩ := h
        refine r_cae c88_67 (oK hK o34) (bd l34 s5) rfl ?_
        exact r_iret c88_68 (Or.inl rfl) h
      · replace h := h.2 hc4
        refine r_iconst c88_55 ?_
        refine r_goto c88_56 ?_
        exact r_iret c88_68 (Or.inl rfl) h
  · replace h := h.2 hc1
    refine r_aload_n c88_13 rfl ?_
    refine r_getR c88_14 (oK hK o33) (FX.get (b := 34) hX (by decide) (by decide +kernel) (by decide)) (by decide) ?_
    refine r_iload_n c88_17 rfl ?_
    obtain ⟨s6, h⟩ := h
    refine r_cae c88_18 (oK hK o34) (bd l34 s6) rfl ?_
    refine r_bipush c88_19 ?_
    refine r_icmpP (P := ¬ (M 34 (Int.toNat l1)) = (32 : Int)) c88_21 rfl (fun hc7 => ?_) (fun hc7 => ?_)
    · replace h := h.1 hc7
      refine r_aload_n c88_37 rfl ?_
      refine r_getIe c88_38 (oK hK o33) rfl ?_
      refine r_ifP (P := ¬ (M 33 6) = (0 : Int)) c88_41 rfl (fun hc9 => ?_) (fun hc9 => ?_)
      · replace h := h.1 hc9
        refine r_iconst c88_55 ?_
        refine r_goto c88_56 ?_
        exact r_iret c88_68 (Or.inl rfl) h
      · have hc10 := Classical.not_not.mp hc9
        replace h := h.2 hc10
        refine r_aload_n c88_44 rfl ?_
        refine r_getIe c88_45 (oK hK o33) rfl ?_
        refine r_aload_n c88_48 rfl ?_
        refine r_getIe c88_49 (oK hK o33) rfl ?_
        refine r_icmpP (P := (M 33 3) < (M 33 2)) c88_52 rfl (fun hc11 => ?_) (fun hc11 => ?_)
        · replace h := h.1 hc11
          refine r_aload_n c88_59 rfl ?_
          refine r_getR c88_60 (oK hK o33) (FX.get (b := 34) hX (by decide) (by decide +kernel) (by decide)) (by decide) ?_
          refine r_aload_n c88_63 rfl ?_
          refine r_getIe c88_64 (oK hK o33) rfl ?_
          obtain ⟨s12, h⟩ := h
          refine r_cae c88_67 (oK hK o34) (bd l34 s12) rfl ?_
          exact r_iret c88_68 (Or.inl rfl) h
        · replace h := h.2 hc11
          refine r_iconst c88_55 ?_
          refine r_goto c88_56 ?_
          exact r_iret c88_68 (Or.inl rfl) h
    · have hc8 := Classical.not_not.mp hc7
      replace h := h.2 hc8
      refine r_aload_n c88_24 rfl ?_
      refine r_iload_n c88_25 rfl ?_
      refine r_iconst c88_26 ?_
      refine r_iadd c88_27 ?_
      refine r_putI c88_28 (oK hK o33) ?_
      have x13 := FX.set (v := (w32 (l1 + (1 : Int)))) (a := 33) (k := 3) hX (by decide +kernel)
      refine r_iinc c88_31 rfl ?_
      refine r_goto c88_34 ?_
      exact h
theorem u90_0 {d : Nat}  {M : Mem} {K : KK} {Q : RR → Mem → KK → Prop} (hK : K.1 = 923) (hX : FX M)  (h : Q (.inl none) (mset M 33 3 (jmin (w32 ((M 33 3) + (1 : Int))) (M 33 2))) K) : Wp d 90 0 [vR 33] [] M K Q := by
  refine r_aload_n c90_0 rfl ?_
  refine r_aload_n c90_1 rfl ?_
  refine r_getIe c90_2 (oK hK o33) rfl ?_
  refine r_iconst c90_5 ?_
  refine r_iadd c90_6 ?_
  refine r_aload_n c90_7 rfl ?_
  refine r_getIe c90_8 (oK hK o33) rfl ?_
  refine r_min c90_11 (Nat.le_of_ble_eq_true rfl) ?_
  refine r_putI c90_14 (oK hK o33) ?_
  have x1 := FX.set (v := (jmin (w32 ((M 33 3) + (1 : Int))) (M 33 2))) (a := 33) (k := 3) hX (by decide +kernel)
  exact r_ret c90_17 h
section TA
variable {d : Nat} {M : Mem} {K : KK} {Q : RR → Mem → KK → Prop} {B : BY} {n : Nat} {st : ST}
theorem g85 (hK : K.1 = 923) (hX : FX M) (k : Q (.inl (some (vI (bI (¬ M 33 6 = 0))))) M K) : Wm d 85 [vR 33] M K Q :=
  u85_0 hK hX ⟨fun e => by rw [bI_f (by simpa using e)] at k; exact k, fun e => by rw [bI_t e] at k; exact k⟩
theorem g86 (hK : K.1 = 923) (hX : FX M) (k : Q (.inl (some (vI (w32 (M 33 6 - 10))))) M K) : Wm d 86 [vR 33] M K Q := u86_0 hK hX k
/-- the state after a fault -/
theorem TR_fail {k pl : Int} (h : TR B n M st) (hk : k ≠ 0) : TR B n (if M 33 6 = 0 then mset (mset M 33 6 k) 33 7 pl else M) (tFail k pl st) := by
  obtain ⟨h1, h2, h3, a, h4, h5, h6⟩ := h
  cases st with
  | inl p =>
    rw [if_pos h6.1.1]
    exact ⟨by rw [ms_nk (by decide), ms_nk (by decide)]; exact h1, h2, fun i hi => by rw [ms_na (by decide), ms_na (by decide)]; exact h3 i hi, a, by rw [ms_nk (by decide), ms_nk (by decide)]; exact h4, h5, by rw [ms_nk (by decide), ms_eq], ms_eq, hk⟩
  | inr f =>
    rw [if_neg (by rw [h6.1]; exact h6.2.2)]
    exact ⟨h1, h2, h3, a, h4, h5, h6⟩
theorem g87 {u v : Int} (hK : K.1 = 923) (hX : FX M) (p : TR B n M st ∧ u ≠ 0) (k : ∀ M', FX M' → (FrT M M' ∧ TR B n M' (tFail u v st)) → Q (.inl none) M' K) : Wm d 87 [vR 33, vI u, vI v] M K Q := by
  have h9 := TR_fail (pl := v) p.1 p.2
  refine u87_0 hK hX ⟨fun e => ?_, fun e => ?_⟩
  · rw [if_neg e] at h9
    exact k _ hX ⟨FrT.rf, h9⟩
  · rw [if_pos e] at h9
    have hf : FrT M (mset (mset M 33 6 u) 33 7 v) := (FrT.rf.up (by decide)).up (by decide)
    exact k _ (hf.fx hX) ⟨hf, h9⟩
/-- at lies just at the state's place -/
def AtE (M : Mem) : ST → Prop
  | .inl p => M 33 3 = (p : Int)
  | .inr _ => True
/-- only at has changed -/
def FrA (M M' : Mem) : Prop := ∀ a k, ¬ (a = 33 ∧ k = 3) → M' a k = M a k
theorem FrA.up {M M1 : Mem} {v : Int} (h1 : FrA M M1) : FrA M (mset M1 33 3 v) := by
  intro a' k' h
  unfold mset
  rw [if_neg h]
  exact h1 a' k' h
theorem FrA.fr {M M' : Mem} (h : FrA M M') : FrT M M' := fun a k hk => h a k (fun q => hk ⟨q.1, by omega⟩)
theorem FrA.m34 {M M' : Mem} (h : FrA M M') (i : Nat) : M' 34 i = M 34 i := h 34 i (by omega)
/-- another place of at, of the same state -/
theorem TR_at {M' : Mem} {p : Nat} (h : TR B n M st) (hf : FrA M M') (hp : M' 33 3 = (p : Int)) (hpn : p ≤ n) (hs : ∀ q, st = .inl q → sk B n p = q) : TR B n M' st := by
  obtain ⟨h1, h2, h3, a, h4, h5, h6⟩ := h
  refine ⟨(hf 33 2 (by decide)).trans h1, h2, fun i hi => (hf.m34 i).trans (h3 i hi), p, hp, hpn, ?_⟩
  cases st with
  | inl q => exact ⟨⟨(hf 33 6 (by decide)).trans h6.1.1, (hf 33 7 (by decide)).trans h6.1.2⟩, hs q rfl⟩
  | inr f => exact ⟨(hf 33 6 (by decide)).trans h6.1, (hf 33 7 (by decide)).trans h6.2.1, h6.2.2⟩
theorem g88 (hK : K.1 = 923) (hX : FX M) (h : TR B n M st) (k : ∀ M', FX M' → (FrT M M' ∧ TR B n M' st ∧ AtE M' st) → Q (.inl (some (vI (pk B n st)))) M' K) : Wm d 88 [vR 33] M K Q := by
  have h0 := h
  obtain ⟨h1, h2, h3, a, h4, h5, h6⟩ := h
  refine u88_0 hK hX ?_
  rw [h4]
  have hst : ∀ q, st = .inl q → sk B n a = q := by
    intro q hq; subst hq; exact h6.2
  have key : ∀ p, p ≤ n → (∀ M1, FrA M M1 → M1 33 3 = (p : Int) → sk B n a = sk B n p → Wp d 88 5 [vR 33, vI (p : Int)] [] M1 K Q) := by
    refine sp_ind (P := isB) (B := B) ?_ ?_
    · intro p hp hno M1 hf hat hsk
      have hx1 : FX M1 := hf.fr.fx hX
      have hp0 : sk B n p = p := by
        by_cases hh : p < n
        · exact sp_no (hno hh)
        · exact sp_end (by omega)
      have hT := TR_at h0 hf hat hp (fun q hq => by rw [← hsk]; exact hst q hq)
      have e2 : M1 33 2 = (n : Int) := (hf 33 2 (by decide)).trans h1
      have fin : (¬ M1 33 6 = 0 → Q (.inl (some (vI (-1 : Int)))) M1 K) ∧ (M1 33 6 = 0 → (M1 33 3 < M1 33 2 → (0 ≤ M1 33 3 ∧ M1 33 3 < (600 : Int)) ∧ Q (.inl (some (vI (M1 34 (Int.toNat (M1 33 3)))))) M1 K) ∧ (¬ M1 33 3 < M1 33 2 → Q (.inl (some (vI (-1 : Int)))) M1 K)) := by
        have kk := k M1 hx1 ⟨hf.fr, hT, ?_⟩
        · cases st with
          | inl q =>
            have hq : p = q := by rw [← hst q rfl, hsk, hp0]
            subst hq
            have e6 : M1 33 6 = 0 := (hf 33 6 (by decide)).trans h6.1.1
            refine ⟨fun hne => absurd e6 hne, fun _ => ⟨fun hlt => ⟨by omega, ?_⟩, fun hge => ?_⟩⟩
            · rw [hat, e2] at hlt
              have : (if p < n then B p else -1) = B p := if_pos (by omega)
              simp only [pk, this] at kk
              rw [hat, Int.toNat_natCast, hf.m34, h3 p (by omega)]
              exact kk
            · rw [hat, e2] at hge
              have : (if p < n then B p else -1) = -1 := if_neg (by omega)
              simp only [pk, this] at kk
              exact kk
          | inr f =>
            have e6 : M1 33 6 ≠ 0 := by rw [hf 33 6 (by decide), h6.1]; exact h6.2.2
            exact ⟨fun _ => kk, fun hz => absurd hz e6⟩
        · cases st with
          | inl q =>
            have hq : p = q := by rw [← hst q rfl, hsk, hp0]
            subst hq; exact hat
          | inr f => trivial
      refine u88_5 hK hx1 ⟨fun hge => ?_, fun hlt => ⟨by omega, fun hc => ?_, fun hc => ?_⟩⟩
      · exact fin
      · exact fin
      · exfalso
        rw [e2] at hlt
        refine hno (by omega) (isB_iff.mpr ?_)
        rw [Int.toNat_natCast, hf.m34, h3 p (by omega)] at hc
        omega
    · intro p hp hb ih M1 hf hat hsk
      have hx1 : FX M1 := hf.fr.fx hX
      have e2 : M1 33 2 = (n : Int) := (hf 33 2 (by decide)).trans h1
      refine u88_5 hK hx1 ⟨fun hge => by omega, fun hlt => ⟨by omega, fun hc => ?_, fun hc => ?_⟩⟩
      · exfalso
        rw [Int.toNat_natCast, hf.m34, h3 p (by omega)] at hc
        exact hc (isB_iff.mp hb)
      · have e : w32 ((p : Int) + 1) = ((p + 1 : Nat) : Int) := by rw [w32_id (by omega)]; omega
        rw [e]
        refine ih _ hf.up ms_eq ?_
        rw [hsk]; exact sp_go hp hb
  exact key a h5 M (fun _ _ _ => rfl) h4 rfl
theorem g90 (hK : K.1 = 923) (hX : FX M) (h : TR B n M st ∧ AtE M st) (k : ∀ M', FX M' → (FrT M M' ∧ TR B n M' (tSkip B n st)) → Q (.inl none) M' K) : Wm d 90 [vR 33] M K Q := by
  obtain ⟨h0, hat⟩ := h
  obtain ⟨h1, h2, h3, a, h4, h5, h6⟩ := h0
  refine u90_0 hK hX ?_
  have hf : FrA M (mset M 33 3 (jmin (w32 (M 33 3 + 1)) (M 33 2))) := FrA.up (fun _ _ _ => rfl)
  refine k _ (hf.fr.fx hX) ⟨hf.fr, (hf 33 2 (by decide)).trans h1, h2, fun i hi => (hf.m34 i).trans (h3 i hi), if a < n then a + 1 else a, ?_, by split <;> omega, ?_⟩
  · rw [ms_eq, jmin_eq, h4, h1, w32_id (by omega)]
    split <;> omega
  · cases st with
    | inl p =>
      have hap : a = p := by
        have : M 33 3 = (p : Int) := hat
        omega
      subst hap
      refine ⟨⟨(hf 33 6 (by decide)).trans h6.1.1, (hf 33 7 (by decide)).trans h6.1.2⟩, ?_⟩
      by_cases hh : a < n
      · rw [if_pos hh, if_pos hh]
      · rw [if_neg hh, if_neg hh]; exact h6.2
    | inr f => exact ⟨(hf 33 6 (by decide)).trans h6.1, (hf 33 7 (by decide)).trans h6.2.1, h6.2.2⟩
end TA
theorem u89_0 {d : Nat}  {M : Mem} {K : KK} {Q : RR → Mem → KK → Prop} (hK : K.1 = 923) (hX : FX M)  (h : ∃ B1 : BY, ∃ n2 : Nat, ∃ st3 : ST, TR B1 n2 M st3 ∧ (∀ (M7 : Mem), FX M7 → (FrT M M7 ∧ TR B1 n2 M7 st3 ∧ AtE M7 st3) → ((pk B1 n2 st3) < (48 : Int) → Q (.inl (some (vI (0 : Int)))) M7 K) ∧ (¬ ((pk B1 n2 st3) < (48 : Int)) → ((57 : Int) < (pk B1 n2 st3) → Q (.inl (some (vI (0 : Int)))) M7 K) ∧ (¬ ((57 : Int) < (pk B1 n2 st3)) → Q (.inl (some (vI (1 : Int)))) M7 K)))) : Wp (d + 1) 89 0 [vR 33, vU] [] M K Q := by
  refine r_aload_n c89_0 rfl ?_
  obtain ⟨B1, h⟩ := h
  obtain ⟨n2, h⟩ := h
  obtain ⟨st3, h⟩ := h
  obtain ⟨p4, h⟩ := h
  refine r_call c89_1 rfl rfl (Nat.le_of_ble_eq_true rfl) (okc_r rfl rfl (oK hK o33)) (g88 hK hX p4 (fun M7 x5 p6 => Bk_v ?_))
  replace h := h M7 x5 p6
  refine r_istore_n c89_4 (Nat.le_of_ble_eq_true rfl) ?_
  refine r_iload_n c89_5 rfl ?_
  refine r_bipush c89_6 ?_
  refine r_icmpP (P := (pk B1 n2 st3) < (48 : Int)) c89_8 rfl (fun hc8 => ?_) (fun hc8 => ?_)
  · replace h := h.1 hc8
    refine r_iconst c89_21 ?_
    exact r_iret c89_22 (by decide) h
  · replace h := h.2 hc8
    refine r_iload_n c89_11 rfl ?_
    refine r_bipush c89_12 ?_
    refine r_icmpP (P := (57 : Int) < (pk B1 n2 st3)) c89_14 rfl (fun hc9 => ?_) (fun hc9 => ?_)
    · replace h := h.1 hc9
      refine r_iconst c89_21 ?_
      exact r_iret c89_22 (by decide) h
    · replace h := h.2 hc9
      refine r_iconst c89_17 ?_
      refine r_goto c89_18 ?_
      exact r_iret c89_22 (by decide) h
theorem u91_0 {d : Nat} {l1 : Int} {M : Mem} {K : KK} {Q : RR → Mem → KK → Prop} (hK : K.1 = 923) (hX : FX M)  (h : ∃ B1 : BY, ∃ n2 : Nat, ∃ st3 : ST, TR B1 n2 M st3 ∧ (∀ (M7 : Mem), FX M7 → (FrT M M7 ∧ TR B1 n2 M7 st3 ∧ AtE M7 st3) → (¬ (pk B1 n2 st3) = l1 → ∃ B10 : BY, ∃ n11 : Nat, ∃ st12 : ST, (TR B10 n11 M7 st12 ∧ (1 : Int) ≠ 0) ∧ (∀ (M16 : Mem), FX M16 → (FrT M7 M16 ∧ TR B10 n11 M16 (tFail (1 : Int) (M7 33 3) st12)) → Q (.inl none) M16 K)) ∧ ((pk B1 n2 st3) = l1 → ∃ B17 : BY, ∃ n18 : Nat, ∃ st19 : ST, (TR B17 n18 M7 st19 ∧ AtE M7 st19) ∧ (∀ (M23 : Mem), FX M23 → (FrT M7 M23 ∧ TR B17 n18 M23 (tSkip B17 n18 st19)) → Q (.inl none) M23 K)))) : Wp (d + 1) 91 0 [vR 33, vI l1] [] M K Q := by
  refine r_aload_n c91_0 rfl ?_
  obtain ⟨B1, h⟩ := h
  obtain ⟨n2, h⟩ := h
  obtain ⟨st3, h⟩ := h
  obtain ⟨p4, h⟩ := h
  refine r_call c91_1 rfl rfl (Nat.le_of_ble_eq_true rfl) (okc_r rfl rfl (oK hK o33)) (g88 hK hX p4 (fun M7 x5 p6 => Bk_v ?_))
  replace h := h M7 x5 p6
  refine r_iload_n c91_4 rfl ?_
  refine r_icmpP (P := ¬ (pk B1 n2 st3) = l1) c91_5 rfl (fun hc8 => ?_) (fun hc8 => ?_)
  · replace h := h.1 hc8
    refine r_aload_n c91_15 rfl ?_
    refine r_iconst c91_16 ?_
    refine r_aload_n c91_17 rfl ?_
    refine r_getIe c91_18 (oK hK o33) rfl ?_
    obtain ⟨B10, h⟩ := h
    obtain ⟨n11, h⟩ := h
    obtain ⟨st12, h⟩ := h
    obtain ⟨p13, h⟩ := h
    refine r_call c91_21 rfl rfl (Nat.le_of_ble_eq_true rfl) (okc_r rfl rfl (oK hK o33)) (g87 hK x5 p13 (fun M16 x14 p15 => Bk_n ?_))
    replace h := h M16 x14 p15
    exact r_ret c91_24 h
  · have hc9 := Classical.not_not.mp hc8
    replace h := h.2 hc9
    refine r_aload_n c91_8 rfl ?_
    obtain ⟨B17, h⟩ := h
    obtain ⟨n18, h⟩ := h
    obtain ⟨st19, h⟩ := h
    obtain ⟨p20, h⟩ := h
    refine r_call c91_9 rfl rfl (Nat.le_of_ble_eq_true rfl) (okc_r rfl rfl (oK hK o33)) (g90 hK x5 p20 (fun M23 x21 p22 => Bk_n ?_))
    replace h := h M23 x21 p22
    refine r_goto c91_12 ?_
    exact r_ret c91_24 h
theorem u94_0 {d : Nat} {l1 : Nat} {M : Mem} {K : KK} {Q : RR → Mem → KK → Prop} (hK : K.1 = 923) (hX : FX M) (k1 : 2 ≤ l1 ∧ l1 < 27) (h : ((w32 ((M 33 5) - (M 33 4))) = ((stT.getD (l1 - 2) []).length : Int) → Wp d 94 20 [vR 33, vR l1, vI (0 : Int)] [] M K Q) ∧ (¬ ((w32 ((M 33 5) - (M 33 4))) = ((stT.getD (l1 - 2) []).length : Int)) → Q (.inl (some (vI (0 : Int)))) M K)) : Wp d 94 0 [vR 33, vR l1, vU] [] M K Q := by
  refine r_aload_n c94_0 rfl ?_
  refine r_getIe c94_1 (oK hK o33) rfl ?_
  refine r_aload_n c94_4 rfl ?_
  refine r_getIe c94_5 (oK hK o33) rfl ?_
  refine r_isub c94_8 ?_
  refine r_aload_n c94_9 rfl ?_
  refine r_slen c94_10 ⟨k1, Nat.le_of_ble_eq_true rfl⟩ ?_
  refine r_icmpP (P := (w32 ((M 33 5) - (M 33 4))) = ((stT.getD (l1 - 2) []).length : Int)) c94_13 rfl (fun hc1 => ?_) (fun hc1 => ?_)
  · replace h := h.1 hc1
    refine r_iconst c94_18 ?_
    refine r_istore_n c94_19 (Nat.le_of_ble_eq_true rfl) ?_
    exact h
  · replace h := h.2 hc1
    refine r_iconst c94_16 ?_
    exact r_iret c94_17 (by decide) h
theorem u94_20 {d : Nat} {l1 : Nat} {l2 : Int} {M : Mem} {K : KK} {Q : RR → Mem → KK → Prop} (hK : K.1 = 923) (hX : FX M) (k1 : 2 ≤ l1 ∧ l1 < 27) (h : (((stT.getD (l1 - 2) []).length : Int) ≤ l2 → Q (.inl (some (vI (1 : Int)))) M K) ∧ (¬ (((stT.getD (l1 - 2) []).length : Int) ≤ l2) → ((600 : Int) ≤ (w32 ((M 33 4) + l2)) → Q (.inl (some (vI (1 : Int)))) M K) ∧ (¬ ((600 : Int) ≤ (w32 ((M 33 4) + l2))) → (0 ≤ (w32 ((M 33 4) + l2)) ∧ (w32 ((M 33 4) + l2)) < (600 : Int)) ∧ (0 ≤ l2 ∧ l2 < ((stT.getD (l1 - 2) []).length : Int)) ∧ ((M 34 (Int.toNat (w32 ((M 33 4) + l2)))) = ((stT.getD (l1 - 2) []).getD (Int.toNat l2) 0 : Int) → Wp d 94 20 [vR 33, vR l1, vI (w32 (l2 + 1))] [] M K Q) ∧ (¬ ((M 34 (Int.toNat (w32 ((M 33 4) + l2)))) = ((stT.getD (l1 - 2) []).getD (Int.toNat l2) 0 : Int)) → Q (.inl (some (vI (0 : Int)))) M K)))) : Wp d 94 20 [vR 33, vR l1, vI l2] [] M K Q := by
  refine r_iload_n c94_20 rfl ?_
  refine r_aload_n c94_21 rfl ?_
  refine r_slen c94_22 ⟨k1, Nat.le_of_ble_eq_true rfl⟩ ?_
  refine r_icmpP (P := ((stT.getD (l1 - 2) []).length : Int) ≤ l2) c94_25 rfl (fun hc1 => ?_) (fun hc1 => ?_)
  · replace h := h.1 hc1
    refine r_iconst c94_69 ?_
    exact r_iret c94_70 (by decide) h
  · replace h := h.2 hc1
    refine r_aload_n c94_28 rfl ?_
    refine r_getIe c94_29 (oK hK o33) rfl ?_
    refine r_iload_n c94_32 rfl ?_
    refine r_iadd c94_33 ?_
    refine r_aload_n c94_34 rfl ?_
    refine r_getR c94_35 (oK hK o33) (FX.get (b := 34) hX (by decide) (by decide +kernel) (by decide)) (by decide) ?_
    refine r_alene c94_38 (mal o34 rfl hK) l34 ?_
    refine r_icmpP (P := (600 : Int) ≤ (w32 ((M 33 4) + l2))) c94_39 rfl (fun hc2 => ?_) (fun hc2 => ?_)
    · replace h := h.1 hc2
      refine r_iconst c94_69 ?_
      exact r_iret c94_70 (by decide) h
    · replace h := h.2 hc2
      refine r_aload_n c94_42 rfl ?_
      refine r_getR c94_43 (oK hK o33) (FX.get (b := 34) hX (by decide) (by decide +kernel) (by decide)) (by decide) ?_
      refine r_aload_n c94_46 rfl ?_
      refine r_getIe c94_47 (oK hK o33) rfl ?_
      refine r_iload_n c94_50 rfl ?_
      refine r_iadd c94_51 ?_
      obtain ⟨s3, h⟩ := h
      refine r_cae c94_52 (oK hK o34) (bd l34 s3) rfl ?_
      refine r_aload_n c94_53 rfl ?_
      refine r_iload_n c94_54 rfl ?_
      obtain ⟨s4, h⟩ := h
      refine r_schr c94_55 ⟨k1, s4, Nat.le_of_ble_eq_true rfl⟩ ?_
      refine r_icmpP (P := (M 34 (Int.toNat (w32 ((M 33 4) + l2)))) = ((stT.getD (l1 - 2) []).getD (Int.toNat l2) 0 : Int)) c94_58 rfl (fun hc5 => ?_) (fun hc5 => ?_)
      · replace h := h.1 hc5
        refine r_iinc c94_63 rfl ?_
        refine r_goto c94_66 ?_
        exact h
      · replace h := h.2 hc5
        refine r_iconst c94_61 ?_
        exact r_iret c94_62 (by decide) h
section TB
variable {d : Nat} {M : Mem} {K : KK} {Q : RR → Mem → KK → Prop} {B : BY} {n : Nat} {st : ST}
theorem bI_c {P R : Prop} [Decidable P] [Decidable R] (h : P ↔ R) : bI P = bI R := by
  unfold bI; by_cases hp : P
  · rw [if_pos hp, if_pos (h.mp hp)]
  · rw [if_neg hp, if_neg (fun q => hp (h.mpr q))]
theorem g89 (hK : K.1 = 923) (hX : FX M) (h : TR B n M st) (k : ∀ M', FX M' → (FrT M M' ∧ TR B n M' st ∧ AtE M' st) → Q (.inl (some (vI (bI (isD (pk B n st) = true))))) M' K) : Wm (d + 1) 89 [vR 33] M K Q := by
  refine u89_0 hK hX ⟨B, n, st, h, fun M' x p => ⟨fun hl => ?_, fun hl => ⟨fun hr => ?_, fun hr => ?_⟩⟩⟩
  · have := k M' x p
    rwa [bI_f (by rw [isD_iff]; omega)] at this
  · have := k M' x p
    rwa [bI_f (by rw [isD_iff]; omega)] at this
  · have := k M' x p
    rwa [bI_t (by rw [isD_iff]; omega)] at this
theorem pk_ok {p : Nat} {c : Int} (hc : c ≠ -1) : pk B n (.inl p) = c ↔ p < n ∧ B p = c := by
  simp only [pk]
  by_cases h : p < n
  · rw [if_pos h]; exact ⟨fun e => ⟨h, e⟩, fun e => e.2⟩
  · rw [if_neg h]; exact ⟨fun e => absurd e.symm hc, fun e => absurd e.1 h⟩
theorem g91 {c : Int} (hK : K.1 = 923) (hX : FX M) (h : TR B n M st ∧ c ≠ -1) (k : ∀ M', FX M' → (FrT M M' ∧ TR B n M' (tSign B n c st)) → Q (.inl none) M' K) : Wm (d + 1) 91 [vR 33, vI c] M K Q := by
  refine u91_0 hK hX ⟨B, n, st, h.1, fun M1 x1 p1 => ⟨fun hne => ⟨B, n, st, ⟨p1.2.1, by decide⟩, fun M2 x2 p2 => ?_⟩, fun he => ⟨B, n, st, ⟨p1.2.1, p1.2.2⟩, fun M2 x2 p2 => ?_⟩⟩⟩
  · refine k M2 x2 ⟨p1.1.tr p2.1, ?_⟩
    have p3 := p2.2
    cases st with
    | inl p =>
      have : ¬ (p < n ∧ B p = c) := fun q => hne ((pk_ok h.2).mpr q)
      simp only [tSign]; rw [if_neg this]
      have hat : M1 33 3 = (p : Int) := p1.2.2
      simp only [tFail, hat] at p3
      exact p3
    | inr f => exact p3
  · refine k M2 x2 ⟨p1.1.tr p2.1, ?_⟩
    have p3 := p2.2
    cases st with
    | inl p =>
      have := (pk_ok h.2).mp he
      simp only [tSign]; rw [if_pos this]
      simp only [tSkip] at p3; rw [if_pos this.1] at p3
      exact p3
    | inr f => exact p3
/-! words -/
def wdL (B : BY) (p e : Nat) : List Int := (List.range (e - p)).map (fun i => B (p + i))
def wL (s : Nat) : List Int := (stT.getD (s - 2) []).map (fun (c : Nat) => (c : Int))
/-- a word was taken from p to e -/
def WA (n : Nat) (M : Mem) (p e : Nat) : Prop := M 33 4 = (p : Int) ∧ M 33 5 = (e : Int) ∧ p ≤ e ∧ e ≤ n ∧ n ≤ 600
theorem wdL_eq {B : BY} {p e s : Nat} : wdL B p e = wL s ↔ e - p = (stT.getD (s - 2) []).length ∧ ∀ i, i < e - p → B (p + i) = (((stT.getD (s - 2) []).getD i 0 : Nat) : Int) := by
  unfold wdL wL
  constructor
  · intro h
    have hl : e - p = (stT.getD (s - 2) []).length := by
      have := congrArg List.length h
      simpa using this
    refine ⟨hl, fun i hi => ?_⟩
    have := congrArg (fun l => l[i]?) h
    simp only [List.getElem?_map, List.getElem?_range hi, Option.map_some] at this
    rw [List.getElem?_eq_getElem (by omega)] at this
    rw [List.getD_eq_getElem?_getD, List.getElem?_eq_getElem (by omega)]
    simpa using this
  · rintro ⟨hl, h⟩
    refine List.ext_getElem (by simpa using hl) ?_
    intro i h1 h2
    simp only [List.length_map, List.length_range] at h1
    simp only [List.getElem_map, List.getElem_range]
    rw [h i h1, List.getD_eq_getElem?_getD, List.getElem?_eq_getElem (by omega)]
    rfl
theorem g94 {s p e : Nat} (hK : K.1 = 923) (hX : FX M) (hs : 2 ≤ s ∧ s < 27) (h : WA n M p e) (k : Q (.inl (some (vI (bI (wdL (M 34) p e = wL s))))) M K) : Wm d 94 [vR 33, vR s] M K Q := by
  obtain ⟨h1, h2, h3, h4, h5⟩ := h
  have hlen : (stT.getD (s - 2) []).length ≤ 20 := by
    have : ∀ j, j < 25 → (stT.getD j []).length ≤ 20 := by decide +kernel
    exact this _ (by omega)
  have e0 : w32 (M 33 5 - M 33 4) = ((e - p : Nat) : Int) := by rw [h1, h2, w32_id (by omega)]; omega
  refine u94_0 hK hX hs ⟨fun hl => ?_, fun hl => ?_⟩
  · have hl' : e - p = (stT.getD (s - 2) []).length := by omega
    have key : ∀ j i, i + j = e - p → (∀ i', i' < i → M 34 (p + i') = (((stT.getD (s - 2) []).getD i' 0 : Nat) : Int)) → Wp d 94 20 [vR 33, vR s, vI (i : Int)] [] M K Q := by
      intro j
      induction j with
      | zero =>
        intro i hi hq
        refine u94_20 hK hX hs ⟨fun _ => ?_, fun hlt => by omega⟩
        rwa [bI_t (wdL_eq.mpr ⟨hl', fun i' hi' => hq i' (by omega)⟩)] at k
      | succ j ih =>
        intro i hi hq
        have ew : w32 (M 33 4 + (i : Int)) = ((p + i : Nat) : Int) := by rw [h1, w32_id (by omega)]; omega
        refine u94_20 hK hX hs ⟨fun hge => by omega, fun hlt => ⟨fun hbig => by rw [ew] at hbig; omega, fun _ => ⟨by rw [ew]; omega, by omega, fun he => ?_, fun hne => ?_⟩⟩⟩
        · rw [show w32 ((i : Int) + 1) = ((i + 1 : Nat) : Int) from by rw [w32_id (by omega)]; omega]
          refine ih (i + 1) (by omega) (fun i' hi' => ?_)
          by_cases hii : i' = i
          · subst hii
            rw [ew, Int.toNat_natCast, Int.toNat_natCast] at he
            exact he
          · exact hq i' (by omega)
        · rwa [bI_f] at k
          intro hw
          refine hne ?_
          rw [ew, Int.toNat_natCast, Int.toNat_natCast]
          exact (wdL_eq.mp hw).2 i (by omega)
    have := key (e - p) 0 (by omega) (fun i' hi' => by omega)
    exact this
  · rwa [bI_f] at k
    intro hw
    have := (wdL_eq.mp hw).1
    omega
end TB
theorem u92_0 {d : Nat} {l1 : Int} {l2 : Int} {M : Mem} {K : KK} {Q : RR → Mem → KK → Prop} (hK : K.1 = 923) (hX : FX M)  (h : ∃ B1 : BY, ∃ n2 : Nat, ∃ st3 : ST, TR B1 n2 M st3 ∧ (∀ (M7 : Mem), FX M7 → (FrT M M7 ∧ TR B1 n2 M7 st3 ∧ AtE M7 st3) → ((isD (pk B1 n2 st3) = true) → Wp (d + 2) 92 32 [vR 33, vI l1, vI l2, vI (M7 33 3), vI (0 : Int), vI (M7 33 3)] [] M7 K Q) ∧ (¬ (isD (pk B1 n2 st3) = true) → ∃ B9 : BY, ∃ n10 : Nat, ∃ st11 : ST, (TR B9 n10 M7 st11 ∧ (1 : Int) ≠ 0) ∧ (∀ (M15 : Mem), FX M15 → (FrT M7 M15 ∧ TR B9 n10 M15 (tFail (1 : Int) (M7 33 3) st11)) → Q (.inl (some (vI l1))) M15 K)))) : Wp (d + 2) 92 0 [vR 33, vI l1, vI l2, vU, vU, vU] [] M K Q := by
  refine r_aload_n c92_0 rfl ?_
  obtain ⟨B1, h⟩ := h
  obtain ⟨n2, h⟩ := h
  obtain ⟨st3, h⟩ := h
  obtain ⟨p4, h⟩ := h
  refine r_call c92_1 rfl rfl (Nat.le_of_ble_eq_true rfl) (okc_r rfl rfl (oK hK o33)) (g89 hK hX p4 (fun M7 x5 p6 => Bk_v ?_))
  replace h := h M7 x5 p6
  refine r_ifP (P := (isD (pk B1 n2 st3) = true)) c92_4 bI_ne (fun hc8 => ?_) (fun hc8 => ?_)
  · replace h := h.1 hc8
    refine r_aload_n c92_18 rfl ?_
    refine r_getIe c92_19 (oK hK o33) rfl ?_
    refine r_istore_n c92_22 (Nat.le_of_ble_eq_true rfl) ?_
    refine r_iconst c92_23 ?_
    refine r_istore c92_24 (Nat.le_of_ble_eq_true rfl) ?_
    refine r_aload_n c92_26 rfl ?_
    refine r_getIe c92_27 (oK hK o33) rfl ?_
    refine r_istore c92_30 (Nat.le_of_ble_eq_true rfl) ?_
    exact h
  · replace h := h.2 hc8
    refine r_aload_n c92_7 rfl ?_
    refine r_iconst c92_8 ?_
    refine r_aload_n c92_9 rfl ?_
    refine r_getIe c92_10 (oK hK o33) rfl ?_
    obtain ⟨B9, h⟩ := h
    obtain ⟨n10, h⟩ := h
    obtain ⟨st11, h⟩ := h
    obtain ⟨p12, h⟩ := h
    refine r_call c92_13 rfl rfl (Nat.le_of_ble_eq_true rfl) (okc_r rfl rfl (oK hK o33)) (g87 hK x5 p12 (fun M15 x13 p14 => Bk_n ?_))
    replace h := h M15 x13 p14
    refine r_iload_n c92_16 rfl ?_
    exact r_iret c92_17 (Or.inl rfl) h
theorem u92_32 {d : Nat} {l1 : Int} {l2 : Int} {l3 : Int} {l4 : Int} {l5 : Int} {M : Mem} {K : KK} {Q : RR → Mem → KK → Prop} (hK : K.1 = 923) (hX : FX M)  (h : ((M 33 2) ≤ l5 → Wp (d + 2) 92 102 [vR 33, vI l1, vI l2, vI l3, vI l4, vI l5] [] M K Q) ∧ (¬ ((M 33 2) ≤ l5) → (0 ≤ l5 ∧ l5 < (600 : Int)) ∧ ((M 34 (Int.toNat l5)) < (48 : Int) → Wp (d + 2) 92 102 [vR 33, vI l1, vI l2, vI l3, vI l4, vI l5] [] M K Q) ∧ (¬ ((M 34 (Int.toNat l5)) < (48 : Int)) → (0 ≤ l5 ∧ l5 < (600 : Int)) ∧ ((57 : Int) < (M 34 (Int.toNat l5)) → Wp (d + 2) 92 102 [vR 33, vI l1, vI l2, vI l3, vI l4, vI l5] [] M K Q) ∧ (¬ ((57 : Int) < (M 34 (Int.toNat l5))) → (0 ≤ l5 ∧ l5 < (600 : Int)) ∧ Wp (d + 2) 92 32 [vR 33, vI l1, vI l2, vI l3, vI (jmin (100000 : Int) (w32 ((w32 ((w32 (l4 * (10 : Int))) + (M 34 (Int.toNat l5)))) - (48 : Int)))), vI (w32 (l5 + 1))] [] (mset M 33 3 (w32 (l5 + (1 : Int)))) K Q)))) : Wp (d + 2) 92 32 [vR 33, vI l1, vI l2, vI l3, vI l4, vI l5] [] M K Q := by
  refine r_iload c92_32 rfl ?_
  refine r_aload_n c92_34 rfl ?_
  refine r_getIe c92_35 (oK hK o33) rfl ?_
  refine r_icmpP (P := (M 33 2) ≤ l5) c92_38 rfl (fun hc1 => ?_) (fun hc1 => ?_)
  · replace h := h.1 hc1
    exact h
  · replace h := h.2 hc1
    refine r_aload_n c92_41 rfl ?_
    refine r_getR c92_42 (oK hK o33) (FX.get (b := 34) hX (by decide) (by decide +kernel) (by decide)) (by decide) ?_
    refine r_iload c92_45 rfl ?_
    obtain ⟨s2, h⟩ := h
    refine r_cae c92_47 (oK hK o34) (bd l34 s2) rfl ?_
    refine r_bipush c92_48 ?_
    refine r_icmpP (P := (M 34 (Int.toNat l5)) < (48 : Int)) c92_50 rfl (fun hc3 => ?_) (fun hc3 => ?_)
    · replace h := h.1 hc3
      exact h
    · replace h := h.2 hc3
      refine r_aload_n c92_53 rfl ?_
      refine r_getR c92_54 (oK hK o33) (FX.get (b := 34) hX (by decide) (by decide +kernel) (by decide)) (by decide) ?_
      refine r_iload c92_57 rfl ?_
      obtain ⟨s4, h⟩ := h
      refine r_cae c92_59 (oK hK o34) (bd l34 s4) rfl ?_
      refine r_bipush c92_60 ?_
      refine r_icmpP (P := (57 : Int) < (M 34 (Int.toNat l5))) c92_62 rfl (fun hc5 => ?_) (fun hc5 => ?_)
      · replace h := h.1 hc5
        exact h
      · replace h := h.2 hc5
        refine r_ldci c92_65 ?_
        refine r_iload c92_67 rfl ?_
        refine r_bipush c92_69 ?_
        refine r_imul c92_71 ?_
        refine r_aload_n c92_72 rfl ?_
        refine r_getR c92_73 (oK hK o33) (FX.get (b := 34) hX (by decide) (by decide +kernel) (by decide)) (by decide) ?_
        refine r_iload c92_76 rfl ?_
        obtain ⟨s6, h⟩ := h
        refine r_cae c92_78 (oK hK o34) (bd l34 s6) rfl ?_
        refine r_iadd c92_79 ?_
        refine r_bipush c92_80 ?_
        refine r_isub c92_82 ?_
        refine r_min c92_83 (Nat.le_of_ble_eq_true rfl) ?_
        refine r_istore c92_86 (Nat.le_of_ble_eq_true rfl) ?_
        refine r_aload_n c92_88 rfl ?_
        refine r_iload c92_89 rfl ?_
        refine r_iconst c92_91 ?_
        refine r_iadd c92_92 ?_
        refine r_putI c92_93 (oK hK o33) ?_
        have x7 := FX.set (v := (w32 (l5 + (1 : Int)))) (a := 33) (k := 3) hX (by decide +kernel)
        refine r_iinc c92_96 rfl ?_
        refine r_goto c92_99 ?_
        exact h
theorem u92_102 {d : Nat} {l1 : Int} {l2 : Int} {l3 : Int} {l4 : Int} {l5 : Int} {M : Mem} {K : KK} {Q : RR → Mem → KK → Prop} (hK : K.1 = 923) (hX : FX M)  (h : (l4 < l1 → ∃ B2 : BY, ∃ n3 : Nat, ∃ st4 : ST, (TR B2 n3 M st4 ∧ (2 : Int) ≠ 0) ∧ (∀ (M8 : Mem), FX M8 → (FrT M M8 ∧ TR B2 n3 M8 (tFail (2 : Int) l3 st4)) → Q (.inl (some (vI l1))) M8 K)) ∧ (¬ (l4 < l1) → (l4 ≤ l2 → Q (.inl (some (vI l4))) M K) ∧ (¬ (l4 ≤ l2) → ∃ B10 : BY, ∃ n11 : Nat, ∃ st12 : ST, (TR B10 n11 M st12 ∧ (2 : Int) ≠ 0) ∧ (∀ (M16 : Mem), FX M16 → (FrT M M16 ∧ TR B10 n11 M16 (tFail (2 : Int) l3 st12)) → Q (.inl (some (vI l1))) M16 K)))) : Wp (d + 2) 92 102 [vR 33, vI l1, vI l2, vI l3, vI l4, vI l5] [] M K Q := by
  refine r_iload c92_102 rfl ?_
  refine r_iload_n c92_104 rfl ?_
  refine r_icmpP (P := l4 < l1) c92_105 rfl (fun hc1 => ?_) (fun hc1 => ?_)
  · replace h := h.1 hc1
    refine r_aload_n c92_114 rfl ?_
    refine r_iconst c92_115 ?_
    refine r_iload_n c92_116 rfl ?_
    obtain ⟨B2, h⟩ := h
    obtain ⟨n3, h⟩ := h
    obtain ⟨st4, h⟩ := h
    obtain ⟨p5, h⟩ := h
    refine r_call c92_117 rfl rfl (Nat.le_of_ble_eq_true rfl) (okc_r rfl rfl (oK hK o33)) (g87 hK hX p5 (fun M8 x6 p7 => Bk_n ?_))
    replace h := h M8 x6 p7
    refine r_iload_n c92_120 rfl ?_
    exact r_iret c92_121 (Or.inl rfl) h
  · replace h := h.2 hc1
    refine r_iload c92_108 rfl ?_
    refine r_iload_n c92_110 rfl ?_
    refine r_icmpP (P := l4 ≤ l2) c92_111 rfl (fun hc9 => ?_) (fun hc9 => ?_)
    · replace h := h.1 hc9
      refine r_iload c92_122 rfl ?_
      exact r_iret c92_124 (Or.inl rfl) h
    · replace h := h.2 hc9
      refine r_aload_n c92_114 rfl ?_
      refine r_iconst c92_115 ?_
      refine r_iload_n c92_116 rfl ?_
      obtain ⟨B10, h⟩ := h
      obtain ⟨n11, h⟩ := h
      obtain ⟨st12, h⟩ := h
      obtain ⟨p13, h⟩ := h
      refine r_call c92_117 rfl rfl (Nat.le_of_ble_eq_true rfl) (okc_r rfl rfl (oK hK o33)) (g87 hK hX p13 (fun M16 x14 p15 => Bk_n ?_))
      replace h := h M16 x14 p15
      refine r_iload_n c92_120 rfl ?_
      exact r_iret c92_121 (Or.inl rfl) h
theorem u93_0 {d : Nat}  {M : Mem} {K : KK} {Q : RR → Mem → KK → Prop} (hK : K.1 = 923) (hX : FX M)  (h : ∃ B1 : BY, ∃ n2 : Nat, ∃ st3 : ST, TR B1 n2 M st3 ∧ (∀ (M7 : Mem), FX M7 → (FrT M M7 ∧ TR B1 n2 M7 st3 ∧ AtE M7 st3) → Wp (d + 1) 93 18 [vR 33, vI (M7 33 3)] [] (mset M7 33 4 (M7 33 3)) K Q)) : Wp (d + 1) 93 0 [vR 33, vU] [] M K Q := by
  refine r_aload_n c93_0 rfl ?_
  obtain ⟨B1, h⟩ := h
  obtain ⟨n2, h⟩ := h
  obtain ⟨st3, h⟩ := h
  obtain ⟨p4, h⟩ := h
  refine r_call c93_1 rfl rfl (Nat.le_of_ble_eq_true rfl) (okc_r rfl rfl (oK hK o33)) (g88 hK hX p4 (fun M7 x5 p6 => Bk_v ?_))
  replace h := h M7 x5 p6
  refine r_popi c93_4 ?_
  refine r_aload_n c93_5 rfl ?_
  refine r_aload_n c93_6 rfl ?_
  refine r_getIe c93_7 (oK hK o33) rfl ?_
  refine r_putI c93_10 (oK hK o33) ?_
  have x8 := FX.set (v := (M7 33 3)) (a := 33) (k := 4) x5 (by decide +kernel)
  refine r_aload_n c93_13 rfl ?_
  refine r_getIe c93_14 (oK hK o33) (ms_nk (by decide)) ?_
  refine r_istore_n c93_17 (Nat.le_of_ble_eq_true rfl) ?_
  exact h
theorem u93_18 {d : Nat} {l1 : Int} {M : Mem} {K : KK} {Q : RR → Mem → KK → Prop} (hK : K.1 = 923) (hX : FX M)  (h : ((M 33 2) ≤ l1 → Q (.inl none) (mset M 33 5 (M 33 3)) K) ∧ (¬ ((M 33 2) ≤ l1) → (0 ≤ l1 ∧ l1 < (600 : Int)) ∧ ((M 34 (Int.toNat l1)) < (97 : Int) → Q (.inl none) (mset M 33 5 (M 33 3)) K) ∧ (¬ ((M 34 (Int.toNat l1)) < (97 : Int)) → (0 ≤ l1 ∧ l1 < (600 : Int)) ∧ ((122 : Int) < (M 34 (Int.toNat l1)) → Q (.inl none) (mset M 33 5 (M 33 3)) K) ∧ (¬ ((122 : Int) < (M 34 (Int.toNat l1))) → Wp (d + 1) 93 18 [vR 33, vI (w32 (l1 + 1))] [] (mset M 33 3 (w32 (l1 + (1 : Int)))) K Q)))) : Wp (d + 1) 93 18 [vR 33, vI l1] [] M K Q := by
  refine r_iload_n c93_18 rfl ?_
  refine r_aload_n c93_19 rfl ?_
  refine r_getIe c93_20 (oK hK o33) rfl ?_
  refine r_icmpP (P := (M 33 2) ≤ l1) c93_23 rfl (fun hc1 => ?_) (fun hc1 => ?_)
  · replace h := h.1 hc1
    refine r_aload_n c93_61 rfl ?_
    refine r_aload_n c93_62 rfl ?_
    refine r_getIe c93_63 (oK hK o33) rfl ?_
    refine r_putI c93_66 (oK hK o33) ?_
    have x2 := FX.set (v := (M 33 3)) (a := 33) (k := 5) hX (by decide +kernel)
    exact r_ret c93_69 h
  · replace h := h.2 hc1
    refine r_aload_n c93_26 rfl ?_
    refine r_getR c93_27 (oK hK o33) (FX.get (b := 34) hX (by decide) (by decide +kernel) (by decide)) (by decide) ?_
    refine r_iload_n c93_30 rfl ?_
    obtain ⟨s3, h⟩ := h
    refine r_cae c93_31 (oK hK o34) (bd l34 s3) rfl ?_
    refine r_bipush c93_32 ?_
    refine r_icmpP (P := (M 34 (Int.toNat l1)) < (97 : Int)) c93_34 rfl (fun hc4 => ?_) (fun hc4 => ?_)
    · replace h := h.1 hc4
      refine r_aload_n c93_61 rfl ?_
      refine r_aload_n c93_62 rfl ?_
      refine r_getIe c93_63 (oK hK o33) rfl ?_
      refine r_putI c93_66 (oK hK o33) ?_
      have x5 := FX.set (v := (M 33 3)) (a := 33) (k := 5) hX (by decide +kernel)
      exact r_ret c93_69 h
    · replace h := h.2 hc4
      refine r_aload_n c93_37 rfl ?_
      refine r_getR c93_38 (oK hK o33) (FX.get (b := 34) hX (by decide) (by decide +kernel) (by decide)) (by decide) ?_
      refine r_iload_n c93_41 rfl ?_
      obtain ⟨s6, h⟩ := h
      refine r_cae c93_42 (oK hK o34) (bd l34 s6) rfl ?_
      refine r_bipush c93_43 ?_
      refine r_icmpP (P := (122 : Int) < (M 34 (Int.toNat l1))) c93_45 rfl (fun hc7 => ?_) (fun hc7 => ?_)
      · replace h := h.1 hc7
        refine r_aload_n c93_61 rfl ?_
        refine r_aload_n c93_62 rfl ?_
        refine r_getIe c93_63 (oK hK o33) rfl ?_
        refine r_putI c93_66 (oK hK o33) ?_
        have x8 := FX.set (v := (M 33 3)) (a := 33) (k := 5) hX (by decide +kernel)
        exact r_ret c93_69 h
      · replace h := h.2 hc7
        refine r_aload_n c93_48 rfl ?_
        refine r_iload_n c93_49 rfl ?_
        refine r_iconst c93_50 ?_
        refine r_iadd c93_51 ?_
        refine r_putI c93_52 (oK hK o33) ?_
        have x9 := FX.set (v := (w32 (l1 + (1 : Int)))) (a := 33) (k := 3) hX (by decide +kernel)
        refine r_iinc c93_55 rfl ?_
        refine r_goto c93_58 ?_
        exact h
theorem u95_0 {d : Nat} {l1 : Int} {M : Mem} {K : KK} {Q : RR → Mem → KK → Prop} (hK : K.1 = 923) (hX : FX M)  (h : ∃ B1 : BY, ∃ n2 : Nat, ∃ st3 : ST, (TR B1 n2 M st3 ∧ l1 ≠ 0) ∧ (∀ (M7 : Mem), FX M7 → (FrT M M7 ∧ TR B1 n2 M7 (tFail l1 (M 33 4) st3)) → Q (.inl none) M7 K)) : Wp (d + 1) 95 0 [vR 33, vI l1] [] M K Q := by
  refine r_aload_n c95_0 rfl ?_
  refine r_iload_n c95_1 rfl ?_
  refine r_aload_n c95_2 rfl ?_
  refine r_getIe c95_3 (oK hK o33) rfl ?_
  obtain ⟨B1, h⟩ := h
  obtain ⟨n2, h⟩ := h
  obtain ⟨st3, h⟩ := h
  obtain ⟨p4, h⟩ := h
  refine r_call c95_6 rfl rfl (Nat.le_of_ble_eq_true rfl) (okc_r rfl rfl (oK hK o33)) (g87 hK hX p4 (fun M7 x5 p6 => Bk_n ?_))
  replace h := h M7 x5 p6
  exact r_ret c95_9 h
theorem u96_0 {d : Nat}  {M : Mem} {K : KK} {Q : RR → Mem → KK → Prop} (hK : K.1 = 923) (hX : FX M)  (h : ∃ B1 : BY, ∃ n2 : Nat, ∃ st3 : ST, TR B1 n2 M st3 ∧ (∀ (M7 : Mem), FX M7 → (FrT M M7 ∧ TR B1 n2 M7 st3 ∧ AtE M7 st3) → ((pk B1 n2 st3) = (-1 : Int) → Q (.inl none) M7 K) ∧ (¬ ((pk B1 n2 st3) = (-1 : Int)) → ∃ B9 : BY, ∃ n10 : Nat, ∃ st11 : ST, (TR B9 n10 M7 st11 ∧ (1 : Int) ≠ 0) ∧ (∀ (M15 : Mem), FX M15 → (FrT M7 M15 ∧ TR B9 n10 M15 (tFail (1 : Int) (M7 33 3) st11)) → Q (.inl none) M15 K)))) : Wp (d + 1) 96 0 [vR 33] [] M K Q := by
  refine r_aload_n c96_0 rfl ?_
  obtain ⟨B1, h⟩ := h
  obtain ⟨n2, h⟩ := h
  obtain ⟨st3, h⟩ := h
  obtain ⟨p4, h⟩ := h
  refine r_call c96_1 rfl rfl (Nat.le_of_ble_eq_true rfl) (okc_r rfl rfl (oK hK o33)) (g88 hK hX p4 (fun M7 x5 p6 => Bk_v ?_))
  replace h := h M7 x5 p6
  refine r_iconst c96_4 ?_
  refine r_icmpP (P := (pk B1 n2 st3) = (-1 : Int)) c96_5 rfl (fun hc8 => ?_) (fun hc8 => ?_)
  · replace h := h.1 hc8
    exact r_ret c96_17 h
  · replace h := h.2 hc8
    refine r_aload_n c96_8 rfl ?_
    refine r_iconst c96_9 ?_
    refine r_aload_n c96_10 rfl ?_
    refine r_getIe c96_11 (oK hK o33) rfl ?_
    obtain ⟨B9, h⟩ := h
    obtain ⟨n10, h⟩ := h
    obtain ⟨st11, h⟩ := h
    obtain ⟨p12, h⟩ := h
    refine r_call c96_14 rfl rfl (Nat.le_of_ble_eq_true rfl) (okc_r rfl rfl (oK hK o33)) (g87 hK x5 p12 (fun M15 x13 p14 => Bk_n ?_))
    replace h := h M15 x13 p14
    exact r_ret c96_17 h

section TC
variable {d : Nat} {M : Mem} {K : KK} {Q : RR → Mem → KK → Prop} {B : BY} {n : Nat} {st : ST}
theorem g92 {lo hi : Int} (hK : K.1 = 923) (hX : FX M) (h : TR B n M st) (k : ∀ M', FX M' → (FrT M M' ∧ TR B n M' (tNum B n lo hi st).2) → Q (.inl (some (vI (tNum B n lo hi st).1))) M' K) : Wm (d + 2) 92 [vR 33, vI lo, vI hi] M K Q := by
  refine u92_0 hK hX ⟨B, n, st, h, fun M1 x1 p1 => ⟨fun hd => ?_, fun hd => ⟨B, n, st, ⟨p1.2.1, by decide⟩, fun M2 x2 p2 => ?_⟩⟩⟩
  · cases st with
    | inr f => simp [pk, isD] at hd
    | inl p =>
      have hp : p < n ∧ isD (B p) = true := by
        simp only [pk] at hd
        by_cases hh : p < n
        · rw [if_pos hh] at hd; exact ⟨hh, hd⟩
        · rw [if_neg hh] at hd; simp [isD] at hd
      have hat : M1 33 3 = (p : Int) := p1.2.2
      have hT1 := p1.2.1
      rw [hat]
      obtain ⟨h1, h2, h3, a, h4, h5, h6⟩ := p1.2.1
      have key : ∀ q, q ≤ n → (p ≤ q → ∀ M2, FrA M1 M2 → M2 33 3 = (q : Int) → (∀ x, p ≤ x → x < q → isD (B x) = true) → sp isD B n p = sp isD B n q → Wp (d + 2) 92 32 [vR 33, vI lo, vI hi, vI (p : Int), vI (nv B p (q - p)), vI (q : Int)] [] M2 K Q) := by
        refine sp_ind (P := isD) (B := B) ?_ ?_
        · intro q hq hno hpq M2 hf hat2 hds hsp
          have hx2 : FX M2 := hf.fr.fx x1
          have e2 : M2 33 2 = (n : Int) := (hf 33 2 (by decide)).trans h1
          have hqq : sp isD B n q = q := by
            by_cases hh : q < n
            · exact sp_no (hno hh)
            · exact sp_end (by omega)
          have hT2 : TR B n M2 (.inl (sk B n q)) := by
            refine ⟨e2, h2, fun i hi => (hf.m34 i).trans (h3 i hi), q, hat2, hq, ⟨(hf 33 6 (by decide)).trans h6.1.1, (hf 33 7 (by decide)).trans h6.1.2⟩, rfl⟩
          have hfr : FrT M M2 := p1.1.tr hf.fr
          -- the end
          have hend : Wp (d + 2) 92 102 [vR 33, vI lo, vI hi, vI (p : Int), vI (nv B p (q - p)), vI (q : Int)] [] M2 K Q := by
            have hv : tNum B n lo hi (.inl p) = if nv B p (q - p) < lo ∨ hi < nv B p (q - p) then (lo, .inr (2, (p : Int))) else (nv B p (q - p), .inl (sk B n q)) := by
              simp only [tNum]; rw [if_pos hp, hsp, hqq]
            have bad : (nv B p (q - p) < lo ∨ hi < nv B p (q - p)) → ∃ B' : BY, ∃ n' : Nat, ∃ st' : ST, (TR B' n' M2 st' ∧ (2 : Int) ≠ 0) ∧ ∀ M' : Mem, FX M' → (FrT M2 M' ∧ TR B' n' M' (tFail 2 (p : Int) st')) → Q (.inl (some (vI lo))) M' K := by
              intro hb
              rw [if_pos hb] at hv
              refine ⟨B, n, _, ⟨hT2, by decide⟩, fun M3 x3 p3 => ?_⟩
              have := k M3 x3 ⟨hfr.tr p3.1, by rw [hv]; exact p3.2⟩
              rwa [hv] at this
            refine u92_102 hK hx2 ⟨fun hlo => ?_, fun hlo => ⟨fun hhi => ?_, fun hhi => ?_⟩⟩
            · exact (bad (Or.inl hlo))
            · rw [if_neg (by omega)] at hv
              have := k M2 hx2 ⟨hfr, by rw [hv]; exact hT2⟩
              rwa [hv] at this
            · exact (bad (Or.inr (by omega)))
          refine u92_32 hK hx2 ⟨fun _ => hend, fun hlt => ⟨by omega, fun _ => hend, fun hge => ⟨by omega, fun _ => hend, fun hle => ?_⟩⟩⟩
          exfalso
          rw [Int.toNat_natCast, hf.m34, h3 q (by omega)] at hge hle
          exact hno (by omega) (isD_iff.mpr (by omega))
        · intro q hq hdq ih hpq M2 hf hat2 hds hsp
          have hx2 : FX M2 := hf.fr.fx x1
          have e2 : M2 33 2 = (n : Int) := (hf 33 2 (by decide)).trans h1
          have eb : M2 34 (Int.toNat (q : Int)) = B q := by rw [Int.toNat_natCast, hf.m34, h3 q (by omega)]
          have hdd := isD_iff.mp hdq
          have hnv := nv_bd (B := B) (p := p) (k := q - p) (fun x h1 h2 => hds x h1 (by omega))
          refine u92_32 hK hx2 ⟨fun _ => by omega, fun hlt => ⟨by omega, fun _ => by omega, fun hge => ⟨by omega, fun _ => by omega, fun hle => ?_⟩⟩⟩
          have ev : jmin (100000 : Int) (w32 (w32 (w32 (nv B p (q - p) * 10) + M2 34 (Int.toNat (q : Int))) - 48)) = nv B p (q + 1 - p) := by
            rw [eb, w32_id (z := nv B p (q - p) * 10) (by omega), w32_id (z := nv B p (q - p) * 10 + B q) (by omega), w32_id (by omega), jmin_eq, show q + 1 - p = (q - p) + 1 from by omega]
            simp only [nv]
            rw [show p + (q - p) = q from by omega]
            congr 1; omega
          rw [ev, show w32 ((q : Int) + 1) = ((q + 1 : Nat) : Int) from by rw [w32_id (by omega)]; omega]
          refine ⟨by omega, ih (by omega) _ hf.up ms_eq (fun x h1 h2 => ?_) (hsp.trans (sp_go hq hdq))⟩
          by_cases hx : x = q
          · subst hx; exact hdq
          · exact hds x h1 (by omega)
      have := key p (by omega) (Nat.le_refl _) M1 (fun _ _ _ => rfl) hat (fun x _ _ => by omega) rfl
      rw [Nat.sub_self] at this
      exact this
  · have e : tNum B n lo hi st = (lo, tFail 1 (M1 33 3) st) := by
      cases st with
      | inr f => rfl
      | inl p =>
        have hat : M1 33 3 = (p : Int) := p1.2.2
        have hp : ¬ (p < n ∧ isD (B p) = true) := by
          rintro ⟨h1, h2⟩
          simp only [pk] at hd
          rw [if_pos h1] at hd
          exact hd h2
        simp only [tNum]; rw [if_neg hp, hat]; rfl
    have := k M2 x2 ⟨p1.1.tr p2.1, by rw [e]; exact p2.2⟩
    rwa [e] at this
/-- the state behind a word -/
def tWord (B : BY) (n : Nat) : ST → ST
  | .inl p => .inl (sk B n (sp isS B n p))
  | .inr f => .inr f
def WQ (B : BY) (n : Nat) (st : ST) (p e : Nat) : Prop := ∀ q, st = .inl q → p = q ∧ e = sp isS B n q
theorem g93 (hK : K.1 = 923) (hX : FX M) (h : TR B n M st) (k : ∀ M', FX M' → (FrT M M' ∧ TR B n M' (tWord B n st) ∧ ∃ p e, WA n M' p e ∧ WQ B n st p e) → Q (.inl none) M' K) : Wm (d + 1) 93 [vR 33] M K Q := by
  refine u93_0 hK hX ⟨B, n, st, h, fun M1 x1 p1 => ?_⟩
  obtain ⟨h1, h2, h3, a, h4, h5, h6⟩ := p1.2.1
  have hat := p1.2.2
  have hf1 : FrT M1 (mset M1 33 4 (M1 33 3)) := FrT.rf.up (by decide)
  have key : ∀ q, q ≤ n → (a ≤ q → ∀ M2, FrA (mset M1 33 4 (M1 33 3)) M2 → M2 33 3 = (q : Int) → sp isS B n a = sp isS B n q → Wp (d + 1) 93 18 [vR 33, vI (q : Int)] [] M2 K Q) := by
    refine sp_ind (P := isS) (B := B) ?_ ?_
    · intro q hq hno haq M2 hf hat2 hsp
      have hx2 : FX M2 := hf.fr.fx (hf1.fx x1)
      have hqq : sp isS B n q = q := by
        by_cases hh : q < n
        · exact sp_no (hno hh)
        · exact sp_end (by omega)
      have e2 : M2 33 2 = (n : Int) := (hf 33 2 (by decide)).trans ((ms_nk (by decide)).trans h1)
      have e4 : M2 33 4 = (a : Int) := by rw [hf 33 4 (by decide), ms_eq, h4]
      have e6 : M2 33 6 = M1 33 6 := (hf 33 6 (by decide)).trans (ms_nk (by decide))
      have e7 : M2 33 7 = M1 33 7 := (hf 33 7 (by decide)).trans (ms_nk (by decide))
      have e34 : ∀ i, M2 34 i = M1 34 i := fun i => (hf.m34 i).trans (ms_na (by decide))
      have fin : Q (.inl none) (mset M2 33 5 (M2 33 3)) K := by
        have hf3 : FrT M2 (mset M2 33 5 (M2 33 3)) := FrT.rf.up (by decide)
        refine k _ (hf3.fx hx2) ⟨((p1.1.tr hf1).tr hf.fr).tr hf3, ⟨(ms_nk (by decide)).trans e2, h2, fun i hi => by rw [ms_na (by decide), e34]; exact h3 i hi, q, (ms_nk (by decide)).trans hat2, hq, ?_⟩, a, q, ⟨(ms_nk (by decide)).trans e4, by rw [ms_eq]; exact hat2, haq, hq, h2⟩, ?_⟩
        · cases st with
          | inl p =>
            have hap : a = p := by
              have : M1 33 3 = (p : Int) := hat
              omega
            subst hap
            exact ⟨⟨by rw [ms_nk (by decide), e6]; exact h6.1.1, by rw [ms_nk (by decide), e7]; exact h6.1.2⟩, by rw [hsp, hqq]⟩
          | inr f => exact ⟨by rw [ms_nk (by decide), e6]; exact h6.1, by rw [ms_nk (by decide), e7]; exact h6.2.1, h6.2.2⟩
        · intro p hp
          subst hp
          have hap : a = p := by
            have : M1 33 3 = (p : Int) := hat
            omega
          subst hap
          exact ⟨rfl, by rw [hsp, hqq]⟩
      refine u93_18 hK hx2 ⟨fun _ => fin, fun hlt => ⟨by omega, fun _ => fin, fun hge => ⟨by omega, fun _ => fin, fun hle => ?_⟩⟩⟩
      exfalso
      rw [Int.toNat_natCast, e34, h3 q (by omega)] at hge hle
      exact hno (by omega) (isS_iff.mpr (by omega))
    · intro q hq hs ih haq M2 hf hat2 hsp
      have hx2 : FX M2 := hf.fr.fx (hf1.fx x1)
      have e2 : M2 33 2 = (n : Int) := (hf 33 2 (by decide)).trans ((ms_nk (by decide)).trans h1)
      have eb : M2 34 (Int.toNat (q : Int)) = B q := by rw [Int.toNat_natCast, hf.m34, ms_na (by decide), h3 q (by omega)]
      have hss := isS_iff.mp hs
      refine u93_18 hK hx2 ⟨fun _ => by omega, fun hlt => ⟨by omega, fun _ => by omega, fun hge => ⟨by omega, fun _ => by omega, fun hle => ?_⟩⟩⟩
      rw [show w32 ((q : Int) + 1) = ((q + 1 : Nat) : Int) from by rw [w32_id (by omega)]; omega]
      exact ih (by omega) _ hf.up ms_eq (hsp.trans (sp_go hq hs))
  have := key a h5 (Nat.le_refl _) _ (fun _ _ _ => rfl) ((ms_nk (by decide)).trans h4) rfl
  rw [← h4] at this
  exact this
theorem g95 {u : Int} {p e : Nat} (hK : K.1 = 923) (hX : FX M) (h : TR B n M st ∧ u ≠ 0 ∧ WA n M p e) (k : ∀ M', FX M' → (FrT M M' ∧ TR B n M' (tFail u (p : Int) st)) → Q (.inl none) M' K) : Wm (d + 1) 95 [vR 33, vI u] M K Q := by
  refine u95_0 hK hX ⟨B, n, st, ⟨h.1, h.2.1⟩, fun M1 x1 p1 => k M1 x1 ⟨p1.1, ?_⟩⟩
  have := p1.2
  rw [h.2.2.1] at this
  exact this
theorem g96 (hK : K.1 = 923) (hX : FX M) (h : TR B n M st ∧ ∀ i, i < n → B i ≠ -1) (k : ∀ M', FX M' → (FrT M M' ∧ TR B n M' (tEnd n st)) → Q (.inl none) M' K) : Wm (d + 1) 96 [vR 33] M K Q := by
  refine u96_0 hK hX ⟨B, n, st, h.1, fun M1 x1 p1 => ⟨fun he => ?_, fun hne => ⟨B, n, st, ⟨p1.2.1, by decide⟩, fun M2 x2 p2 => ?_⟩⟩⟩
  · refine k M1 x1 ⟨p1.1, ?_⟩
    have hT := p1.2.1
    cases st with
    | inr f => exact hT
    | inl p =>
      have : ¬ p < n := by
        intro hh
        simp only [pk] at he
        rw [if_pos hh] at he
        exact h.2 p hh he
      simp only [tEnd]; rw [if_neg this]; exact hT
  · refine k M2 x2 ⟨p1.1.tr p2.1, ?_⟩
    have hT := p2.2
    cases st with
    | inr f => exact hT
    | inl p =>
      have hat : M1 33 3 = (p : Int) := p1.2.2
      have : p < n := by
        simp only [pk] at hne
        by_cases hh : p < n
        · exact hh
        · rw [if_neg hh] at hne; exact absurd rfl hne
      simp only [tEnd]; rw [if_pos this]
      rw [hat] at hT; exact hT
end TC
