/-! the law is read: what the text says (for class and model) -/
abbrev XL : Type := ST × LC
section LS
variable (B : BY) (n : Nat)
def pairF (S : XL → XL) (k : Int) (x : XL) : XL :=
  let a := S (tSign B n 91 x.1, x.2)
  let b := S (tSign B n 44 a.1, a.2)
  (tSign B n 93 b.1, b.2 ++ [(k, 0)])
def uF (O : Option (XL → XL)) (x : XL) : XL := match x.1 with
  | .inr f => (.inr f, x.2)
  | .inl p =>
    if isD (pk B n (.inl p)) = true then ((tNum B n 0 999 (.inl p)).2, x.2 ++ [(0, (tNum B n 0 999 (.inl p)).1)])
    else if pk B n (.inl p) = 40 then O.elim (.inr (3, (p : Int)), x.2) (fun S => (tSign B n 41 (S (tSign B n 40 (.inl p), x.2)).1, (S (tSign B n 40 (.inl p), x.2)).2))
    else if nmOf (wdL B p (sp isS B n p)) [10, 11, 12, 13, 14, 15, 16, 17] 0 ≠ -1 then (tWord B n (.inl p), x.2 ++ [(1, nmOf (wdL B p (sp isS B n p)) [10, 11, 12, 13, 14, 15, 16, 17] 0)])
    else if wdL B p (sp isS B n p) = wL 8 ∨ wdL B p (sp isS B n p) = wL 9 then O.elim (.inr (3, (p : Int)), x.2) (fun S => pairF B n S (if wdL B p (sp isS B n p) = wL 8 then 7 else 8) (tWord B n (.inl p), x.2))
    else (.inr (1, (p : Int)), x.2)
def prodL (U : XL → XL) : Nat → XL → XL
  | 0, x => x
  | f + 1, x => if pk B n x.1 = 42 ∨ pk B n x.1 = 47 ∨ pk B n x.1 = 37 then prodL U f ((U (tSkip B n x.1, x.2)).1, (U (tSkip B n x.1, x.2)).2 ++ [((if pk B n x.1 = 42 then 4 else if pk B n x.1 = 47 then 5 else 6), 0)]) else x
def sumL (P : XL → XL) : Nat → XL → XL
  | 0, x => x
  | f + 1, x => if pk B n x.1 = 43 ∨ pk B n x.1 = 45 then sumL P f ((P (tSkip B n x.1, x.2)).1, (P (tSkip B n x.1, x.2)).2 ++ [((if pk B n x.1 = 43 then 2 else 3), 0)]) else x
def pSm : Nat → XL → XL
  | 0 => fun x => sumL B n (fun x => prodL B n (uF B n none) 150 (uF B n none x)) 150 (prodL B n (uF B n none) 150 (uF B n none x))
  | r + 1 => fun x => sumL B n (fun x => prodL B n (uF B n (some (pSm r))) 150 (uF B n (some (pSm r)) x)) 150 (prodL B n (uF B n (some (pSm r))) 150 (uF B n (some (pSm r)) x))
end LS
/-- the codes so far are no more than the signs read, by s at least -/
def GL (s : Nat) (x : XL) : Prop := ∀ p, x.1 = .inl p → x.2.length + s ≤ p
def GX1 (B : BY) (n : Nat) (F : XL → XL) : Prop := ∀ (x : XL) (s : Nat), STw B n x.1 → GL s x → STw B n (F x).1 ∧ GL s (F x)
section LG
variable {B : BY} {n : Nat}
theorem sk_w {p : Nat} (hp : p ≤ n) : STw B n (.inl (sk B n p)) := ⟨(sp_ge hp).2, sk_sk hp⟩
theorem w_num {lo hi : Int} {st : ST} (h : STw B n st) : STw B n (tNum B n lo hi st).2 := by
  cases st with
  | inr f => exact h
  | inl p =>
    simp only [tNum]
    split
    · split
      · exact (by decide : (2 : Int) ≠ 0)
      · exact sk_w (sp_ge h.1).2
    · exact (by decide : (1 : Int) ≠ 0)
theorem w_sign {c : Int} {st : ST} (h : STw B n st) : STw B n (tSign B n c st) := by
  cases st with
  | inr f => exact h
  | inl p =>
    simp only [tSign]
    split
    · exact sk_w (by omega)
    · exact (by decide : (1 : Int) ≠ 0)
theorem w_skip {st : ST} (h : STw B n st) : STw B n (tSkip B n st) := by
  cases st with
  | inr f => exact h
  | inl p =>
    simp only [tSkip]
    split
    · exact sk_w (by omega)
    · exact h
theorem w_word {st : ST} (h : STw B n st) : STw B n (tWord B n st) := by
  cases st with
  | inr f => exact h
  | inl p => exact sk_w (sp_ge h.1).2
theorem g_sign {c : Int} {st : ST} {L : LC} {s : Nat} (h : STw B n st) (hg : GL s (st, L)) : GL (s + 1) (tSign B n c st, L) := by
  intro p hp
  cases st with
  | inr f => cases hp
  | inl q =>
    have := hg q rfl
    simp only [tSign] at hp
    split at hp
    · have h2 := (sp_ge (P := isB) (B := B) (n := n) (p := q + 1) (by omega)).1
      have e9 : sp isB B n (q + 1) = p := Sum.inl.inj hp
      dsimp only at this ⊢
      omega
    · cases hp
theorem g_skip {st : ST} {L : LC} {s : Nat} (hp : pk B n st ≠ -1) (hg : GL s (st, L)) : GL (s + 1) (tSkip B n st, L) := by
  intro p hq
  cases st with
  | inr f => cases hq
  | inl q =>
    have := hg q rfl
    have hqn : q < n := by
      simp only [pk] at hp
      by_cases hh : q < n
      · exact hh
      · rw [if_neg hh] at hp; exact absurd rfl hp
    simp only [tSkip] at hq
    rw [if_pos hqn] at hq
    have h2 := (sp_ge (P := isB) (B := B) (n := n) (p := q + 1) (by omega)).1
    have e9 : sp isB B n (q + 1) = p := Sum.inl.inj hq
    dsimp only at this ⊢
    omega
theorem GL.add {st : ST} {L : LC} {c : Int × Int} {s : Nat} (h : GL (s + 1) (st, L)) : GL s (st, L ++ [c]) := by
  intro p hp
  have := h p hp
  simp only [List.length_append, List.length_cons, List.length_nil] at *
  omega
theorem GL.dn {x : XL} {s : Nat} (h : GL (s + 1) x) : GL s x := fun p hp => by have := h p hp; omega
theorem g_num {lo hi : Int} {st : ST} {L : LC} {s : Nat} (h : STw B n st) (hg : GL s (st, L)) : GL (s + 1) ((tNum B n lo hi st).2, L) := by
  intro p hp
  cases st with
  | inr f => cases hp
  | inl q =>
    have := hg q rfl
    simp only [tNum] at hp
    split at hp
    · rename_i hq
      split at hp
      · cases hp
      · have e9 : sp isB B n (sp isD B n q) = p := Sum.inl.inj hp
        have h0 : sp isD B n q = sp isD B n (q + 1) := sp_go hq.1 hq.2
        have h1 := sp_ge (P := isD) (B := B) (n := n) (p := q + 1) (by omega)
        have h2 := (sp_ge (P := isB) (B := B) (n := n) (p := sp isD B n q) (by omega)).1
        dsimp only at this ⊢
        omega
    · cases hp
theorem nmOf_lt {w : List Int} : ∀ (l : List Nat) (i : Int), nmOf w l i = -1 ∨ (i ≤ nmOf w l i ∧ nmOf w l i < i + l.length ∧ ∃ s ∈ l, w = wL s) := by
  intro l
  induction l with
  | nil => intro i; exact Or.inl rfl
  | cons a l ih =>
    intro i
    simp only [nmOf]
    split
    · rename_i h
      exact Or.inr ⟨Int.le_refl _, by simp; omega, a, by simp, h⟩
    · rcases ih (i + 1) with h | ⟨h1, h2, s, hs, hw⟩
      · exact Or.inl h
      · refine Or.inr ⟨by omega, ?_, s, List.mem_cons_of_mem _ hs, hw⟩
        simp only [List.length_cons]; omega
theorem g_word {p s a : Nat} {L : LC} (hp : p ≤ n) (hw : wdL B p (sp isS B n p) = wL a) (ha : 2 ≤ a ∧ a < 25) (hg : GL s (.inl p, L)) : GL (s + 1) (tWord B n (.inl p), L) := by
  intro q hq
  have e9 : sp isB B n (sp isS B n p) = q := Sum.inl.inj hq
  have h0 := hg p rfl
  have h1 := sp_ge (P := isS) (B := B) (n := n) (p := p) hp
  have h2 := (sp_ge (P := isB) (B := B) (n := n) (p := sp isS B n p) h1.2).1
  have h3 : ∀ a, a < 25 → 2 ≤ a → 1 ≤ (wL a).length := by decide +kernel
  have h4 := congrArg List.length hw
  rw [wdL_len] at h4
  have := h3 a ha.2 ha.1
  dsimp only at h0 ⊢
  omega
theorem pairF_g {S : XL → XL} (hS : GX1 B n S) {k : Int} {st : ST} {L : LC} {s : Nat} (hw : STw B n st) (hg : GL s (st, L)) : STw B n (pairF B n S k (st, L)).1 ∧ GL s (pairF B n S k (st, L)) := by
  have h1 := hS (tSign B n 91 st, L) (s + 1) (w_sign hw) (g_sign hw hg)
  have h2 := hS (tSign B n 44 (S (tSign B n 91 st, L)).1, (S (tSign B n 91 st, L)).2) (s + 2) (w_sign h1.1) (g_sign h1.1 h1.2)
  refine ⟨w_sign h2.1, ?_⟩
  exact (g_sign (s := s) h2.1 (GL.dn (GL.dn h2.2))).add
theorem uF_g {O : Option (XL → XL)} (hO : ∀ S, O = some S → GX1 B n S) : GX1 B n (uF B n O) := by
  rintro ⟨st, L⟩ s hw hg
  cases st with
  | inr f => exact ⟨hw, fun p hp => by simp [uF] at hp⟩
  | inl p =>
    dsimp only at hw hg
    simp only [uF]
    split
    · exact ⟨w_num hw, (g_num hw hg).add⟩
    · split
      · cases O with
        | none => exact ⟨(by decide : (3 : Int) ≠ 0), fun p hp => by cases hp⟩
        | some S =>
          have h1 := hO S rfl (tSign B n 40 (.inl p), L) (s + 1) (w_sign hw) (g_sign hw hg)
          exact ⟨w_sign h1.1, (g_sign (s := s) h1.1 h1.2.dn).dn⟩
      · split
        · rename_i hne
          have := nmOf_lt (w := wdL B p (sp isS B n p)) [10, 11, 12, 13, 14, 15, 16, 17] 0
          rcases this with h | ⟨-, -, a, ha, hwa⟩
          · exact absurd h hne
          · have ha' : 2 ≤ a ∧ a < 25 := by simp at ha; omega
            exact ⟨w_word hw, (g_word hw.1 hwa ha' hg).add⟩
        · split
          · cases O with
            | none => exact ⟨(by decide : (3 : Int) ≠ 0), fun p hp => by cases hp⟩
            | some S =>
              rename_i hor
              have hg2 : GL (s + 1) (tWord B n (.inl p), L) := by
                rcases hor with h | h
                · exact g_word hw.1 h (by decide) hg
                · exact g_word hw.1 h (by decide) hg
              have := pairF_g (hO S rfl) (k := if wdL B p (sp isS B n p) = wL 8 then 7 else 8) (w_word hw) hg2
              exact ⟨this.1, this.2.dn⟩
          · exact ⟨(by decide : (1 : Int) ≠ 0), fun p hp => by cases hp⟩
theorem prodL_g {U : XL → XL} (hU : GX1 B n U) : ∀ f, GX1 B n (prodL B n U f) := by
  intro f
  induction f with
  | zero => intro x s hw hg; exact ⟨hw, hg⟩
  | succ f ih =>
    rintro ⟨st, L⟩ s hw hg
    simp only [prodL]
    split
    · rename_i hc
      have h1 := hU (tSkip B n st, L) (s + 1) (w_skip hw) (g_skip (by omega) hg)
      exact ih _ s h1.1 h1.2.add
    · exact ⟨hw, hg⟩
theorem sumL_g {U : XL → XL} (hU : GX1 B n U) : ∀ f, GX1 B n (sumL B n U f) := by
  intro f
  induction f with
  | zero => intro x s hw hg; exact ⟨hw, hg⟩
  | succ f ih =>
    rintro ⟨st, L⟩ s hw hg
    simp only [sumL]
    split
    · rename_i hc
      have h1 := hU (tSkip B n st, L) (s + 1) (w_skip hw) (g_skip (by omega) hg)
      exact ih _ s h1.1 h1.2.add
    · exact ⟨hw, hg⟩
theorem prodF_g {U : XL → XL} (hU : GX1 B n U) : GX1 B n (fun x => prodL B n U 150 (U x)) := fun x s hw hg => by
  have h1 := hU x s hw hg
  exact prodL_g hU 150 _ s h1.1 h1.2
theorem sumF_g {U : XL → XL} (hU : GX1 B n U) : GX1 B n (fun x => sumL B n U 150 (U x)) := fun x s hw hg => by
  have h1 := hU x s hw hg
  exact sumL_g hU 150 _ s h1.1 h1.2
theorem pSm_g : ∀ r, GX1 B n (pSm B n r) := by
  intro r
  induction r with
  | zero => exact sumF_g (prodF_g (uF_g (fun S h => by cases h)))
  | succ r ih => exact sumF_g (prodF_g (uF_g (fun S h => by cases h; exact ih)))
end LG
/-! the class reads its law -/
def FrL (l : Nat) (M M' : Mem) : Prop := ∀ a k, a ≠ l + 2 → ¬ (a = l ∧ k = 3) → ¬ (a = 33 ∧ 3 ≤ k ∧ k ≤ 7) → M' a k = M a k
theorem FrL.tr {l : Nat} {M M1 M2 : Mem} (h1 : FrL l M M1) (h2 : FrL l M1 M2) : FrL l M M2 := fun a k p q r => (h2 a k p q r).trans (h1 a k p q r)
theorem FrT.L {l : Nat} {M M' : Mem} (h : FrT M M') : FrL l M M' := fun a k _ _ r => h a k r
theorem FrC.L {l : Nat} {M M' : Mem} (h : FrC l M M') : FrL l M M' := fun a k p q _ => h a k p q
def oo (x : XL) : Option LC := match x.1 with
  | .inl _ => some x.2
  | .inr _ => none
section LC1
variable {B : BY} {n : Nat}
theorem TR.c {l : Nat} {M M' : Mem} {st : ST} (hl : isO 923 l 2 = true) (hf : FrC l M M') (h : TR B n M st) : TR B n M' st := by
  have hr := rg2 hl
  have h33 : ∀ k, M' 33 k = M 33 k := fun k => hf 33 k (by omega) (by omega)
  have h34 : ∀ k, M' 34 k = M 34 k := fun k => hf 34 k (by omega) (by omega)
  obtain ⟨h1, h2, h3, a, h4, h5, h6⟩ := h
  refine ⟨(h33 2).trans h1, h2, fun i hi => (h34 i).trans (h3 i hi), a, (h33 3).trans h4, h5, ?_⟩
  cases st with
  | inl p => exact ⟨⟨(h33 6).trans h6.1.1, (h33 7).trans h6.1.2⟩, h6.2⟩
  | inr f => exact ⟨(h33 6).trans h6.1, (h33 7).trans h6.2.1, h6.2.2⟩
theorem CRo.t {l : Nat} {M M' : Mem} {o : Option LC} (hl : isO 923 l 2 = true) (hf : FrT M M') (h : CRo M l o) : CRo M' l o := by
  have hr := rg2 hl
  have h3 : M' l 3 = M l 3 := hf l 3 (by omega)
  have h2 : ∀ k, M' (l + 2) k = M (l + 2) k := fun k => hf _ k (by omega)
  cases o with
  | none => simp only [CRo] at h ⊢; rw [h3]; exact h
  | some L => exact ⟨h3.trans h.1, h.2.1, fun i hi => (h2 i).trans (h.2.2 i hi)⟩
theorem CRo.w {l : Nat} {M : Mem} {o : Option LC} (h : CRo M l o) : CRo M l none := by
  cases o with
  | none => exact h
  | some L => have := h.1; have := h.2.1; exact ⟨by omega, by omega⟩
theorem TR.w {M : Mem} {st : ST} (h : TR B n M st) : STw B n st := by
  obtain ⟨h1, h2, h3, a, h4, h5, h6⟩ := h
  cases st with
  | inl p => rw [← h6.2]; exact sk_w h5
  | inr f => exact h6.2.2
theorem wdL_c {M : Mem} {st : ST} {p e : Nat} (h : TR B n M st) (he : e ≤ n) : wdL (M 34) p e = wdL B p e := by
  unfold wdL
  refine List.map_congr_left (fun i hi => ?_)
  have := List.mem_range.mp hi
  exact h.2.2.1 _ (by omega)
/-- a method that reads codes as F says -/
def CtL (B : BY) (n D m : Nat) (ar : List PV) (F : XL → XL) : Prop := ∀ (d : Nat) (M : Mem) (K : KK) (Q : RR → Mem → KK → Prop) (l : Nat) (x : XL) (s : Nat), D ≤ d → K.1 = 923 → FX M → isO 923 l 2 = true → TR B n M x.1 → CRo M l (oo x) → GL s x → (∀ M', FX M' → FrL l M M' → TR B n M' (F x).1 → CRo M' l (oo (F x)) → Q (.inl none) M' K) → Wm d m (vR l :: vR 33 :: ar) M K Q
/-- behind a fault nothing more is read -/
def FL1 (F : XL → XL) : Prop := ∀ f L, (F (.inr f, L)).1 = .inr f
theorem FL1_oo {F : XL → XL} (h : FL1 F) {f : Int × Int} {L : LC} : oo (F (.inr f, L)) = none := by
  unfold oo; rw [h f L]
theorem encC_op {k : Int} (h : 2 ≤ k) : encC (k, 0) = 1998 + k := by unfold encC; rw [if_neg (by simp; omega), if_neg (by simp; omega)]
/-- what add is told, and what follows for the known codes -/
theorem oo_add {st : ST} {L : LC} {c : Int × Int} {n9 s : Nat} (hn : n ≤ 150) (hw : STw B n st) (hg : GL (s + 1) (st, L)) : oo (st, L ++ [c]) = none ∨ ∃ L' c', oo (st, L) = some L' ∧ oo (st, L ++ [c]) = some (L' ++ [c']) ∧ L'.length < 150 ∧ c' = c := by
  cases st with
  | inr f => exact Or.inl rfl
  | inl p =>
    have := hg p rfl
    have := hw.1
    exact Or.inr ⟨L, c, rfl, rfl, by dsimp only at *; omega, rfl⟩
end LC1
theorem u24_0 {d : Nat} {l0 : Nat} {l2 : Int} {l3 : Int} {M : Mem} {K : KK} {Q : RR → Mem → KK → Prop} (hK : K.1 = 923) (hX : FX M) (k0 : isO 923 l0 2 = true) (h : ∃ B1 : BY, ∃ n2 : Nat, ∃ st3 : ST, (TR B1 n2 M st3 ∧ (91 : Int) ≠ -1) ∧ (∀ (M7 : Mem), FX M7 → (FrT M M7 ∧ TR B1 n2 M7 (tSign B1 n2 (91 : Int) st3)) → Wm (d + 1) 21 [vR l0, vR 33, vI l2] M7 K (Bk (d + 1) 24 9 12 21 [vR l0, vR 33, vI l2, vI l3] [] Q))) : Wp (d + 2) 24 0 [vR l0, vR 33, vI l2, vI l3] [] M K Q := by
  refine r_aload_n c24_0 rfl ?_
  refine r_bipush c24_1 ?_
  obtain ⟨B1, h⟩ := h
  obtain ⟨n2, h⟩ := h
  obtain ⟨st3, h⟩ := h
  obtain ⟨p4, h⟩ := h
  refine r_call c24_3 rfl rfl (Nat.le_of_ble_eq_true rfl) (okc_r rfl rfl (oK hK o33)) (g91 hK hX p4 (fun M7 x5 p6 => Bk_n ?_))
  replace h := h M7 x5 p6
  refine r_aload_n c24_6 rfl ?_
  refine r_aload_n c24_7 rfl ?_
  refine r_iload_n c24_8 rfl ?_
  exact r_call c24_9 rfl rfl (Nat.le_of_ble_eq_true rfl) (okc_r rfl rfl (oK hK k0)) h
theorem u24_12 {d : Nat} {l0 : Nat} {l2 : Int} {l3 : Int} {M : Mem} {K : KK} {Q : RR → Mem → KK → Prop} (hK : K.1 = 923) (hX : FX M) (k0 : isO 923 l0 2 = true) (h : ∃ B1 : BY, ∃ n2 : Nat, ∃ st3 : ST, (TR B1 n2 M st3 ∧ (44 : Int) ≠ -1) ∧ (∀ (M7 : Mem), FX M7 → (FrT M M7 ∧ TR B1 n2 M7 (tSign B1 n2 (44 : Int) st3)) → Wm (d + 1) 21 [vR l0, vR 33, vI l2] M7 K (Bk (d + 1) 24 21 24 21 [vR l0, vR 33, vI l2, vI l3] [] Q))) : Wp (d + 2) 24 12 [vR l0, vR 33, vI l2, vI l3] [] M K Q := by
  refine r_aload_n c24_12 rfl ?_
  refine r_bipush c24_13 ?_
  obtain ⟨B1, h⟩ := h
  obtain ⟨n2, h⟩ := h
  obtain ⟨st3, h⟩ := h
  obtain ⟨p4, h⟩ := h
  refine r_call c24_15 rfl rfl (Nat.le_of_ble_eq_true rfl) (okc_r rfl rfl (oK hK o33)) (g91 hK hX p4 (fun M7 x5 p6 => Bk_n ?_))
  replace h := h M7 x5 p6
  refine r_aload_n c24_18 rfl ?_
  refine r_aload_n c24_19 rfl ?_
  refine r_iload_n c24_20 rfl ?_
  exact r_call c24_21 rfl rfl (Nat.le_of_ble_eq_true rfl) (okc_r rfl rfl (oK hK k0)) h
theorem u24_24 {d : Nat} {l0 : Nat} {l2 : Int} {l3 : Int} {M : Mem} {K : KK} {Q : RR → Mem → KK → Prop} (hK : K.1 = 923) (hX : FX M) (k0 : isO 923 l0 2 = true) (h : ∃ B1 : BY, ∃ n2 : Nat, ∃ st3 : ST, (TR B1 n2 M st3 ∧ (93 : Int) ≠ -1) ∧ (∀ (M7 : Mem), FX M7 → (FrT M M7 ∧ TR B1 n2 M7 (tSign B1 n2 (93 : Int) st3)) → ∃ o8 : Option LC, CRo M7 l0 o8 ∧ (∀ (M12 : Mem), FX M12 → (FrC l0 M7 M12 ∧ ∀ o' : Option LC, (o' = none ∨ ∃ L c, o8 = some L ∧ o' = some (L ++ [c]) ∧ L.length < 150 ∧ l3 = encC c) → CRo M12 l0 o') → Q (.inl none) M12 K))) : Wp (d + 2) 24 24 [vR l0, vR 33, vI l2, vI l3] [] M K Q := by
  refine r_aload_n c24_24 rfl ?_
  refine r_bipush c24_25 ?_
  obtain ⟨B1, h⟩ := h
  obtain ⟨n2, h⟩ := h
  obtain ⟨st3, h⟩ := h
  obtain ⟨p4, h⟩ := h
  refine r_call c24_27 rfl rfl (Nat.le_of_ble_eq_true rfl) (okc_r rfl rfl (oK hK o33)) (g91 hK hX p4 (fun M7 x5 p6 => Bk_n ?_))
  replace h := h M7 x5 p6
  refine r_aload_n c24_30 rfl ?_
  refine r_iload_n c24_31 rfl ?_
  obtain ⟨o8, h⟩ := h
  obtain ⟨p9, h⟩ := h
  refine r_call c24_32 rfl rfl (Nat.le_of_ble_eq_true rfl) (okc_r rfl rfl (oK hK k0)) (g20 hK x5 k0 p9 (fun M12 x10 p11 => Bk_n ?_))
  replace h := h M12 x10 p11
  exact r_ret c24_35 h
section LC2
variable {B : BY} {n : Nat}
theorem pair_ok {S : XL → XL} {D : Nat} {op k : Int} (hn : n ≤ 150) (hk : 2 ≤ k) (hS : CtL B n D 21 [vI op] S) (hG : GX1 B n S) : CtL B n (D + 2) 24 [vI op, vI (1998 + k)] (pairF B n S k) := by
  rintro d M K Q l ⟨st, L⟩ s hd hK hX hl ht hc hg kk
  obtain ⟨d, rfl⟩ : ∃ d', d = d' + 2 := ⟨d - 2, by omega⟩
  refine u24_0 hK hX hl ⟨B, n, st, ⟨ht, by decide⟩, fun M1 x1 p1 => ?_⟩
  have hw1 := w_sign (c := 91) ht.w
  have hg1 := g_sign (c := 91) ht.w hg
  have hc1 : CRo M1 l (oo (tSign B n 91 st, L)) := by
    cases st with
    | inr f => exact hc.t hl p1.1
    | inl p =>
      simp only [tSign]
      split
      · exact hc.t hl p1.1
      · exact (hc.t hl p1.1).w
  refine hS (d + 1) M1 K _ l (tSign B n 91 st, L) (s + 1) (by omega) hK x1 hl p1.2 hc1 hg1 (fun M2 x2 f2 t2 c2 => Bk_n ?_)
  have hgS := hG _ _ hw1 hg1
  refine u24_12 hK x2 hl ⟨B, n, _, ⟨t2, by decide⟩, fun M3 x3 p3 => ?_⟩
  have hc3 : CRo M3 l (oo (tSign B n 44 (S (tSign B n 91 st, L)).1, (S (tSign B n 91 st, L)).2)) := by
    revert c2
    generalize S (tSign B n 91 st, L) = y
    intro c2
    obtain ⟨y1, y2⟩ := y
    cases y1 with
    | inr f => exact c2.t hl p3.1
    | inl p =>
      simp only [tSign]
      split
      · exact c2.t hl p3.1
      · exact (c2.t hl p3.1).w
  have hg3 := g_sign (c := 44) hgS.1 hgS.2
  have hw3 := w_sign (c := 44) hgS.1
  refine hS (d + 1) M3 K _ l _ (s + 2) (by omega) hK x3 hl p3.2 hc3 hg3 (fun M4 x4 f4 t4 c4 => Bk_n ?_)
  have hgS2 := hG _ _ hw3 hg3
  refine u24_24 hK x4 hl ⟨B, n, _, ⟨t4, by decide⟩, fun M5 x5 p5 => ?_⟩
  have hc5 : CRo M5 l (oo (tSign B n 93 (S (tSign B n 44 (S (tSign B n 91 st, L)).1, (S (tSign B n 91 st, L)).2)).1, (S (tSign B n 44 (S (tSign B n 91 st, L)).1, (S (tSign B n 91 st, L)).2)).2)) := by
    revert c4
    generalize S (tSign B n 44 (S (tSign B n 91 st, L)).1, (S (tSign B n 91 st, L)).2) = y
    intro c4
    obtain ⟨y1, y2⟩ := y
    cases y1 with
    | inr f => exact c4.t hl p5.1
    | inl p =>
      simp only [tSign]
      split
      · exact c4.t hl p5.1
      · exact (c4.t hl p5.1).w
  refine ⟨_, hc5, fun M6 x6 p6 => ?_⟩
  refine kk M6 x6 (((((p1.1.L).tr f2).tr p3.1.L).tr f4).tr (p5.1.L.tr p6.1.L)) (p5.2.c hl p6.1) (p6.2 _ ?_)
  have hg5 := g_sign (c := 93) hgS2.1 (hgS2.2.dn.dn)
  rcases oo_add (c := (k, 0)) (n9 := 0) hn (w_sign (c := 93) hgS2.1) hg5 with h | ⟨L', c', h1, h2, h3, rfl⟩
  · exact Or.inl h
  · exact Or.inr ⟨L', (k, 0), h1, h2, h3, (encC_op hk).symm⟩
end LC2
theorem u23_0 {d : Nat} {l0 : Nat} {l2 : Int} {M : Mem} {K : KK} {Q : RR → Mem → KK → Prop} (hK : K.1 = 923) (hX : FX M) (k0 : isO 923 l0 2 = true) (h : ∃ B1 : BY, ∃ n2 : Nat, ∃ st3 : ST, TR B1 n2 M st3 ∧ (∀ (M7 : Mem), FX M7 → (FrT M M7 ∧ TR B1 n2 M7 st3 ∧ AtE M7 st3) → (¬ (isD (pk B1 n2 st3) = true) → ∃ B10 : BY, ∃ n11 : Nat, ∃ st12 : ST, TR B10 n11 M7 st12 ∧ (∀ (M16 : Mem), FX M16 → (FrT M7 M16 ∧ TR B10 n11 M16 st12 ∧ AtE M16 st12) → (¬ (pk B10 n11 st12) = (40 : Int) → ∃ B19 : BY, ∃ n20 : Nat, ∃ st21 : ST, TR B19 n20 M16 st21 ∧ (∀ (M25 : Mem), FX M25 → (FrT M16 M25 ∧ TR B19 n20 M25 (tWord B19 n20 st21) ∧ ∃ p e, WA n20 M25 p e ∧ WQ B19 n20 st21 p e) → ∃ n26 : Nat, ∃ p27 : Nat, ∃ e28 : Nat, WA n26 M25 p27 e28 ∧ ∃ n30 : Nat, ∃ p31 : Nat, ∃ e32 : Nat, WA n30 M25 p31 e32 ∧ ((wdL (M25 34) p31 e32 = wL 8) → Wp (d + 3) 23 68 [vR l0, vR 33, vI l2, vI (0 : Int), vI (nmOf (wdL (M25 34) p27 e28) [10, 11, 12, 13, 14, 15, 16, 17] 0), vU] [vI (1 : Int)] M25 K Q) ∧ (¬ (wdL (M25 34) p31 e32 = wL 8) → ∃ n35 : Nat, ∃ p36 : Nat, ∃ e37 : Nat, WA n35 M25 p36 e37 ∧ (¬ (wdL (M25 34) p36 e37 = wL 9) → Wp (d + 3) 23 68 [vR l0, vR 33, vI l2, vI (0 : Int), vI (nmOf (wdL (M25 34) p27 e28) [10, 11, 12, 13, 14, 15, 16, 17] 0), vU] [vI (0 : Int)] M25 K Q) ∧ ((wdL (M25 34) p36 e37 = wL 9) → Wp (d + 3) 23 68 [vR l0, vR 33, vI l2, vI (0 : Int), vI (nmOf (wdL (M25 34) p27 e28) [10, 11, 12, 13, 14, 15, 16, 17] 0), vU] [vI (1 : Int)] M25 K Q)))) ∧ ((pk B10 n11 st12) = (40 : Int) → ∃ B41 : BY, ∃ n42 : Nat, ∃ st43 : ST, TR B41 n42 M16 st43 ∧ (∀ (M47 : Mem), FX M47 → (FrT M16 M47 ∧ TR B41 n42 M47 (tWord B41 n42 st43) ∧ ∃ p e, WA n42 M47 p e ∧ WQ B41 n42 st43 p e) → ∃ n48 : Nat, ∃ p49 : Nat, ∃ e50 : Nat, WA n48 M47 p49 e50 ∧ ∃ n52 : Nat, ∃ p53 : Nat, ∃ e54 : Nat, WA n52 M47 p53 e54 ∧ ((wdL (M47 34) p53 e54 = wL 8) → Wp (d + 3) 23 68 [vR l0, vR 33, vI l2, vI (1 : Int), vI (nmOf (wdL (M47 34) p49 e50) [10, 11, 12, 13, 14, 15, 16, 17] 0), vU] [vI (1 : Int)] M47 K Q) ∧ (¬ (wdL (M47 34) p53 e54 = wL 8) → ∃ n57 : Nat, ∃ p58 : Nat, ∃ e59 : Nat, WA n57 M47 p58 e59 ∧ (¬ (wdL (M47 34) p58 e59 = wL 9) → Wp (d + 3) 23 68 [vR l0, vR 33, vI l2, vI (1 : Int), vI (nmOf (wdL (M47 34) p49 e50) [10, 11, 12, 13, 14, 15, 16, 17] 0), vU] [vI (0 : Int)] M47 K Q) ∧ ((wdL (M47 34) p58 e59 = wL 9) → Wp (d + 3) 23 68 [vR l0, vR 33, vI l2, vI (1 : Int), vI (nmOf (wdL (M47 34) p49 e50) [10, 11, 12, 13, 14, 15, 16, 17] 0), vU] [vI (1 : Int)] M47 K Q)))))) ∧ ((isD (pk B1 n2 st3) = true) → ∃ B63 : BY, ∃ n64 : Nat, ∃ st65 : ST, TR B63 n64 M7 st65 ∧ (∀ (M69 : Mem), FX M69 → (FrT M7 M69 ∧ TR B63 n64 M69 (tNum B63 n64 (0 : Int) (999 : Int) st65).2) → ∃ o70 : Option LC, CRo M69 l0 o70 ∧ (∀ (M74 : Mem), FX M74 → (FrC l0 M69 M74 ∧ ∀ o' : Option LC, (o' = none ∨ ∃ L c, o70 = some L ∧ o' = some (L ++ [c]) ∧ L.length < 150 ∧ ((tNum B63 n64 (0 : Int) (999 : Int) st65).1) = encC c) → CRo M74 l0 o') → Q (.inl none) M74 K))))) : Wp (d + 3) 23 0 [vR l0, vR 33, vI l2, vU, vU, vU] [] M K Q := by
  refine r_aload_n c23_0 rfl ?_
  obtain ⟨B1, h⟩ := h
  obtain ⟨n2, h⟩ := h
  obtain ⟨st3, h⟩ := h
  obtain ⟨p4, h⟩ := h
  refine r_call c23_1 rfl rfl (Nat.le_of_ble_eq_true rfl) (okc_r rfl rfl (oK hK o33)) (g89 hK hX p4 (fun M7 x5 p6 => Bk_v ?_))
  replace h := h M7 x5 p6
  refine r_ifP (P := ¬ (isD (pk B1 n2 st3) = true)) c23_4 bI_eq (fun hc8 => ?_) (fun hc8 => ?_)
  · replace h := h.1 hc8
    refine r_aload_n c23_20 rfl ?_
    obtain ⟨B10, h⟩ := h
    obtain ⟨n11, h⟩ := h
    obtain ⟨st12, h⟩ := h
    obtain ⟨p13, h⟩ := h
    refine r_call c23_21 rfl rfl (Nat.le_of_ble_eq_true rfl) (okc_r rfl rfl (oK hK o33)) (g88 hK x5 p13 (fun M16 x14 p15 => Bk_v ?_))
    replace h := h M16 x14 p15
    refine r_bipush c23_24 ?_
    refine r_icmpP (P := ¬ (pk B10 n11 st12) = (40 : Int)) c23_26 rfl (fun hc17 => ?_) (fun hc17 => ?_)
    · replace h := h.1 hc17
      refine r_iconst c23_33 ?_
      refine r_istore_n c23_34 (Nat.le_of_ble_eq_true rfl) ?_
      refine r_aload_n c23_35 rfl ?_
      obtain ⟨B19, h⟩ := h
      obtain ⟨n20, h⟩ := h
      obtain ⟨st21, h⟩ := h
      obtain ⟨p22, h⟩ := h
      refine r_call c23_36 rfl rfl (Nat.le_of_ble_eq_true rfl) (okc_r rfl rfl (oK hK o33)) (g93 hK x14 p22 (fun M25 x23 p24 => Bk_n ?_))
      replace h := h M25 x23 p24
      refine r_aload_n c23_39 rfl ?_
      obtain ⟨n26, h⟩ := h
      obtain ⟨p27, h⟩ := h
      obtain ⟨e28, h⟩ := h
      obtain ⟨p29, h⟩ := h
      refine r_call c23_40 rfl rfl (Nat.le_of_ble_eq_true rfl) (okc_s rfl rfl rfl) (g25 hK x23 p29 (Bk_v ?_))
      refine r_istore c23_43 (Nat.le_of_ble_eq_true rfl) ?_
      refine r_aload_n c23_45 rfl ?_
      refine r_ldcs c23_46 ?_
      obtain ⟨n30, h⟩ := h
      obtain ⟨p31, h⟩ := h
      obtain ⟨e32, h⟩ := h
      obtain ⟨p33, h⟩ := h
      refine r_call c23_48 rfl rfl (Nat.le_of_ble_eq_true rfl) (okc_r rfl rfl (oK hK o33)) (g94 hK x23 (by decide) p33 (Bk_v ?_))
      refine r_ifP (P := (wdL (M25 34) p31 e32 = wL 8)) c23_51 bI_ne (fun hc34 => ?_) (fun hc34 => ?_)
      · replace h := h.1 hc34
        refine r_iconst c23_63 ?_
        refine r_goto c23_64 ?_
        exact h
      · replace h := h.2 hc34
        refine r_aload_n c23_54 rfl ?_
        refine r_ldcs c23_55 ?_
        obtain ⟨n35, h⟩ := h
        obtain ⟨p36, h⟩ := h
        obtain ⟨e37, h⟩ := h
        obtain ⟨p38, h⟩ := h
        refine r_call c23_57 rfl rfl (Nat.le_of_ble_eq_true rfl) (okc_r rfl rfl (oK hK o33)) (g94 hK x23 (by decide) p38 (Bk_v ?_))
        refine r_ifP (P := ¬ (wdL (M25 34) p36 e37 = wL 9)) c23_60 bI_eq (fun hc39 => ?_) (fun hc39 => ?_)
        · replace h := h.1 hc39
          refine r_iconst c23_67 ?_
          exact h
        · have hc40 := Classical.not_not.mp hc39
          replace h := h.2 hc40
          refine r_iconst c23_63 ?_
          refine r_goto c23_64 ?_
          exact h
    · have hc18 := Classical.not_not.mp hc17
      replace h := h.2 hc18
      refine r_iconst c23_29 ?_
      refine r_goto c23_30 ?_
      refine r_istore_n c23_34 (Nat.le_of_ble_eq_true rfl) ?_
      refine r_aload_n c23_35 rfl ?_
      obtain ⟨B41, h⟩ := h
      obtain ⟨n42, h⟩ := h
      obtain ⟨st43, h⟩ := h
      obtain ⟨p44, h⟩ := h
      refine r_call c23_36 rfl rfl (Nat.le_of_ble_eq_true rfl) (okc_r rfl rfl (oK hK o33)) (g93 hK x14 p44 (fun M47 x45 p46 => Bk_n ?_))
      replace h := h M47 x45 p46
      refine r_aload_n c23_39 rfl ?_
      obtain ⟨n48, h⟩ := h
      obtain ⟨p49, h⟩ := h
      obtain ⟨e50, h⟩ := h
      obtain ⟨p51, h⟩ := h
      refine r_call c23_40 rfl rfl (Nat.le_of_ble_eq_true rfl) (okc_s rfl rfl rfl) (g25 hK x45 p51 (Bk_v ?_))
      refine r_istore c23_43 (Nat.le_of_ble_eq_true rfl) ?_
      refine r_aload_n c23_45 rfl ?_
      refine r_ldcs c23_46 ?_
      obtain ⟨n52, h⟩ := h
      obtain ⟨p53, h⟩ := h
      obtain ⟨e54, h⟩ := h
      obtain ⟨p55, h⟩ := h
      refine r_call c23_48 rfl rfl (Nat.le_of_ble_eq_true rfl) (okc_r rfl rfl (oK hK o33)) (g94 hK x45 (by decide) p55 (Bk_v ?_))
      refine r_ifP (P := (wdL (M47 34) p53 e54 = wL 8)) c23_51 bI_ne (fun hc56 => ?_) (fun hc56 => ?_)
      · replace h := h.1 hc56
        refine r_iconst c23_63 ?_
        refine r_goto c23_64 ?_
        exact h
      · replace h := h.2 hc56
        refine r_aload_n c23_54 rfl ?_
        refine r_ldcs c23_55 ?_
        obtain ⟨n57, h⟩ := h
        obtain ⟨p58, h⟩ := h
        obtain ⟨e59, h⟩ := h
        obtain ⟨p60, h⟩ := h
        refine r_call c23_57 rfl rfl (Nat.le_of_ble_eq_true rfl) (okc_r rfl rfl (oK hK o33)) (g94 hK x45 (by decide) p60 (Bk_v ?_))
        refine r_ifP (P := ¬ (wdL (M47 34) p58 e59 = wL 9)) c23_60 bI_eq (fun hc61 => ?_) (fun hc61 => ?_)
        · replace h := h.1 hc61
          refine r_iconst c23_67 ?_
          exact h
        · have hc62 := Classical.not_not.mp hc61
          replace h := h.2 hc62
          refine r_iconst c23_63 ?_
          refine r_goto c23_64 ?_
          exact h
  · have hc9 := Classical.not_not.mp hc8
    replace h := h.2 hc9
    refine r_aload_n c23_7 rfl ?_
    refine r_aload_n c23_8 rfl ?_
    refine r_iconst c23_9 ?_
    refine r_sipush c23_10 ?_
    obtain ⟨B63, h⟩ := h
    obtain ⟨n64, h⟩ := h
    obtain ⟨st65, h⟩ := h
    obtain ⟨p66, h⟩ := h
    refine r_call c23_13 rfl rfl (Nat.le_of_ble_eq_true rfl) (okc_r rfl rfl (oK hK o33)) (g92 hK x5 p66 (fun M69 x67 p68 => Bk_v ?_))
    replace h := h M69 x67 p68
    obtain ⟨o70, h⟩ := h
    obtain ⟨p71, h⟩ := h
    refine r_call c23_16 rfl rfl (Nat.le_of_ble_eq_true rfl) (okc_r rfl rfl (oK hK k0)) (g20 hK x67 k0 p71 (fun M74 x72 p73 => Bk_n ?_))
    replace h := h M74 x72 p73
    exact r_ret c23_19 h
theorem u23_68 {d : Nat} {l0 : Nat} {l2 : Int} {l3 : Int} {l4 : Int} {t0 : Int} {M : Mem} {K : KK} {Q : RR → Mem → KK → Prop} (hK : K.1 = 923) (hX : FX M) (k0 : isO 923 l0 2 = true) (h : (l4 = (-1 : Int) → (¬ l3 = (0 : Int) → Wp (d + 3) 23 106 [vR l0, vR 33, vI l2, vI l3, vI l4, vI t0] [] M K Q) ∧ (l3 = (0 : Int) → (¬ t0 = (0 : Int) → Wp (d + 3) 23 106 [vR l0, vR 33, vI l2, vI l3, vI l4, vI t0] [] M K Q) ∧ (t0 = (0 : Int) → ∃ B6 : BY, ∃ n7 : Nat, ∃ st8 : ST, ∃ p9 : Nat, ∃ e10 : Nat, (TR B6 n7 M st8 ∧ (1 : Int) ≠ 0 ∧ WA n7 M p9 e10) ∧ (∀ (M14 : Mem), FX M14 → (FrT M M14 ∧ TR B6 n7 M14 (tFail (1 : Int) (p9 : Int) st8)) → Wp (d + 3) 23 173 [vR l0, vR 33, vI l2, vI l3, vI l4, vI t0] [] M14 K Q)))) ∧ (¬ (l4 = (-1 : Int)) → ∃ o15 : Option LC, CRo M l0 o15 ∧ (∀ (M19 : Mem), FX M19 → (FrC l0 M M19 ∧ ∀ o' : Option LC, (o' = none ∨ ∃ L c, o15 = some L ∧ o' = some (L ++ [c]) ∧ L.length < 150 ∧ (w32 ((1000 : Int) + l4)) = encC c) → CRo M19 l0 o') → Wp (d + 3) 23 173 [vR l0, vR 33, vI l2, vI l3, vI l4, vI t0] [] M19 K Q))) : Wp (d + 3) 23 68 [vR l0, vR 33, vI l2, vI l3, vI l4, vU] [vI t0] M K Q := by
  refine r_istore c23_68 (Nat.le_of_ble_eq_true rfl) ?_
  refine r_iload c23_70 rfl ?_
  refine r_iconst c23_72 ?_
  refine r_icmpP (P := l4 = (-1 : Int)) c23_73 rfl (fun hc1 => ?_) (fun hc1 => ?_)
  · replace h := h.1 hc1
    refine r_iload_n c23_89 rfl ?_
    refine r_ifP (P := ¬ l3 = (0 : Int)) c23_90 rfl (fun hc2 => ?_) (fun hc2 => ?_)
    · replace h := h.1 hc2
      exact h
    · have hc3 := Classical.not_not.mp hc2
      replace h := h.2 hc3
      refine r_iload c23_93 rfl ?_
      refine r_ifP (P := ¬ t0 = (0 : Int)) c23_95 rfl (fun hc4 => ?_) (fun hc4 => ?_)
      · replace h := h.1 hc4
        exact h
      · have hc5 := Classical.not_not.mp hc4
        replace h := h.2 hc5
        refine r_aload_n c23_98 rfl ?_
        refine r_iconst c23_99 ?_
        obtain ⟨B6, h⟩ := h
        obtain ⟨n7, h⟩ := h
        obtain ⟨st8, h⟩ := h
        obtain ⟨p9, h⟩ := h
        obtain ⟨e10, h⟩ := h
        obtain ⟨p11, h⟩ := h
        refine r_call c23_100 rfl rfl (Nat.le_of_ble_eq_true rfl) (okc_r rfl rfl (oK hK o33)) (g95 hK hX p11 (fun M14 x12 p13 => Bk_n ?_))
        replace h := h M14 x12 p13
        refine r_goto c23_103 ?_
        exact h
  · replace h := h.2 hc1
    refine r_aload_n c23_76 rfl ?_
    refine r_sipush c23_77 ?_
    refine r_iload c23_80 rfl ?_
    refine r_iadd c23_82 ?_
    obtain ⟨o15, h⟩ := h
    obtain ⟨p16, h⟩ := h
    refine r_call c23_83 rfl rfl (Nat.le_of_ble_eq_true rfl) (okc_r rfl rfl (oK hK k0)) (g20 hK hX k0 p16 (fun M19 x17 p18 => Bk_n ?_))
    replace h := h M19 x17 p18
    refine r_goto c23_86 ?_
    exact h
theorem u23_106 {d : Nat} {l0 : Nat} {l2 : Int} {l3 : Int} {l4 : Int} {l5 : Int} {M : Mem} {K : KK} {Q : RR → Mem → KK → Prop} (hK : K.1 = 923) (hX : FX M) (k0 : isO 923 l0 2 = true) (h : (l2 < (6 : Int) → (l3 = (0 : Int) → ∃ n3 : Nat, ∃ p4 : Nat, ∃ e5 : Nat, WA n3 M p4 e5 ∧ (¬ (wdL (M 34) p4 e5 = wL 8) → Wm (d + 2) 24 [vR l0, vR 33, vI (w32 (l2 + (1 : Int))), vI (2006 : Int)] M K (Bk (d + 2) 23 170 173 24 [vR l0, vR 33, vI l2, vI l3, vI l4, vI l5] [] Q)) ∧ ((wdL (M 34) p4 e5 = wL 8) → Wm (d + 2) 24 [vR l0, vR 33, vI (w32 (l2 + (1 : Int))), vI (2005 : Int)] M K (Bk (d + 2) 23 170 173 24 [vR l0, vR 33, vI l2, vI l3, vI l4, vI l5] [] Q))) ∧ (¬ (l3 = (0 : Int)) → ∃ B9 : BY, ∃ n10 : Nat, ∃ st11 : ST, (TR B9 n10 M st11 ∧ (40 : Int) ≠ -1) ∧ (∀ (M15 : Mem), FX M15 → (FrT M M15 ∧ TR B9 n10 M15 (tSign B9 n10 (40 : Int) st11)) → Wm (d + 2) 21 [vR l0, vR 33, vI (w32 (l2 + (1 : Int)))] M15 K (Bk (d + 2) 23 135 138 21 [vR l0, vR 33, vI l2, vI l3, vI l4, vI l5] [] Q)))) ∧ (¬ (l2 < (6 : Int)) → ∃ B16 : BY, ∃ n17 : Nat, ∃ st18 : ST, ∃ p19 : Nat, ∃ e20 : Nat, (TR B16 n17 M st18 ∧ (3 : Int) ≠ 0 ∧ WA n17 M p19 e20) ∧ (∀ (M24 : Mem), FX M24 → (FrT M M24 ∧ TR B16 n17 M24 (tFail (3 : Int) (p19 : Int) st18)) → Wp (d + 3) 23 173 [vR l0, vR 33, vI l2, vI l3, vI l4, vI l5] [] M24 K Q))) : Wp (d + 3) 23 106 [vR l0, vR 33, vI l2, vI l3, vI l4, vI l5] [] M K Q := by
  refine r_iload_n c23_106 rfl ?_
  refine r_bipush c23_107 ?_
  refine r_icmpP (P := l2 < (6 : Int)) c23_109 rfl (fun hc1 => ?_) (fun hc1 => ?_)
  · replace h := h.1 hc1
    refine r_iload_n c23_120 rfl ?_
    refine r_ifP (P := l3 = (0 : Int)) c23_121 rfl (fun hc2 => ?_) (fun hc2 => ?_)
    · replace h := h.1 hc2
      refine r_aload_n c23_147 rfl ?_
      refine r_aload_n c23_148 rfl ?_
      refine r_iload_n c23_149 rfl ?_
      refine r_iconst c23_150 ?_
      refine r_iadd c23_151 ?_
      refine r_aload_n c23_152 rfl ?_
      refine r_ldcs c23_153 ?_
      obtain ⟨n3, h⟩ := h
      obtain ⟨p4, h⟩ := h
      obtain ⟨e5, h⟩ := h
      obtain ⟨p6, h⟩ := h
      refine r_call c23_155 rfl rfl (Nat.le_of_ble_eq_true rfl) (okc_r rfl rfl (oK hK o33)) (g94 hK hX (by decide) p6 (Bk_v ?_))
      refine r_ifP (P := ¬ (wdL (M 34) p4 e5 = wL 8)) c23_158 bI_eq (fun hc7 => ?_) (fun hc7 => ?_)
      · replace h := h.1 hc7
        refine r_sipush c23_167 ?_
        exact r_call c23_170 rfl rfl (Nat.le_of_ble_eq_true rfl) (okc_r rfl rfl (oK hK k0)) h
      · have hc8 := Classical.not_not.mp hc7
        replace h := h.2 hc8
        refine r_sipush c23_161 ?_
        refine r_goto c23_164 ?_
        exact r_call c23_170 rfl rfl (Nat.le_of_ble_eq_true rfl) (okc_r rfl rfl (oK hK k0)) h
    · replace h := h.2 hc2
      refine r_aload_n c23_124 rfl ?_
      refine r_bipush c23_125 ?_
      obtain ⟨B9, h⟩ := h
      obtain ⟨n10, h⟩ := h
      obtain ⟨st11, h⟩ := h
      obtain ⟨p12, h⟩ := h
      refine r_call c23_127 rfl rfl (Nat.le_of_ble_eq_true rfl) (okc_r rfl rfl (oK hK o33)) (g91 hK hX p12 (fun M15 x13 p14 => Bk_n ?_))
      replace h := h M15 x13 p14
      refine r_aload_n c23_130 rfl ?_
      refine r_aload_n c23_131 rfl ?_
      refine r_iload_n c23_132 rfl ?_
      refine r_iconst c23_133 ?_
      refine r_iadd c23_134 ?_
      exact r_call c23_135 rfl rfl (Nat.le_of_ble_eq_true rfl) (okc_r rfl rfl (oK hK k0)) h
  · replace h := h.2 hc1
    refine r_aload_n c23_112 rfl ?_
    refine r_iconst c23_113 ?_
    obtain ⟨B16, h⟩ := h
    obtain ⟨n17, h⟩ := h
    obtain ⟨st18, h⟩ := h
    obtain ⟨p19, h⟩ := h
    obtain ⟨e20, h⟩ := h
    obtain ⟨p21, h⟩ := h
    refine r_call c23_114 rfl rfl (Nat.le_of_ble_eq_true rfl) (okc_r rfl rfl (oK hK o33)) (g95 hK hX p21 (fun M24 x22 p23 => Bk_n ?_))
    replace h := h M24 x22 p23
    refine r_goto c23_117 ?_
    exact h
theorem u23_138 {d : Nat} {l0 : Nat} {l2 : Int} {l3 : Int} {l4 : Int} {l5 : Int} {M : Mem} {K : KK} {Q : RR → Mem → KK → Prop} (hK : K.1 = 923) (hX : FX M) (k0 : isO 923 l0 2 = true) (h : ∃ B1 : BY, ∃ n2 : Nat, ∃ st3 : ST, (TR B1 n2 M st3 ∧ (41 : Int) ≠ -1) ∧ (∀ (M7 : Mem), FX M7 → (FrT M M7 ∧ TR B1 n2 M7 (tSign B1 n2 (41 : Int) st3)) → Wp (d + 3) 23 173 [vR l0, vR 33, vI l2, vI l3, vI l4, vI l5] [] M7 K Q)) : Wp (d + 3) 23 138 [vR l0, vR 33, vI l2, vI l3, vI l4, vI l5] [] M K Q := by
  refine r_aload_n c23_138 rfl ?_
  refine r_bipush c23_139 ?_
  obtain ⟨B1, h⟩ := h
  obtain ⟨n2, h⟩ := h
  obtain ⟨st3, h⟩ := h
  obtain ⟨p4, h⟩ := h
  refine r_call c23_141 rfl rfl (Nat.le_of_ble_eq_true rfl) (okc_r rfl rfl (oK hK o33)) (g91 hK hX p4 (fun M7 x5 p6 => Bk_n ?_))
  replace h := h M7 x5 p6
  refine r_goto c23_144 ?_
  exact h
theorem u23_173 {d : Nat} {l0 : Nat} {l2 : Int} {l3 : Int} {l4 : Int} {l5 : Int} {M : Mem} {K : KK} {Q : RR → Mem → KK → Prop} (hK : K.1 = 923) (hX : FX M) (k0 : isO 923 l0 2 = true) (h : Q (.inl none) M K) : Wp (d + 3) 23 173 [vR l0, vR 33, vI l2, vI l3, vI l4, vI l5] [] M K Q := by
  exact r_ret c23_173 h
theorem u22_0 {d : Nat} {l0 : Nat} {l2 : Int} {M : Mem} {K : KK} {Q : RR → Mem → KK → Prop} (hK : K.1 = 923) (hX : FX M) (k0 : isO 923 l0 2 = true) (h : Wm d 23 [vR l0, vR 33, vI l2] M K (Bk d 22 3 6 23 [vR l0, vR 33, vI l2, vU, vU] [] Q)) : Wp (d + 1) 22 0 [vR l0, vR 33, vI l2, vU, vU] [] M K Q := by
  refine r_aload_n c22_0 rfl ?_
  refine r_aload_n c22_1 rfl ?_
  refine r_iload_n c22_2 rfl ?_
  exact r_call c22_3 rfl rfl (Nat.le_of_ble_eq_true rfl) (okc_r rfl rfl (oK hK k0)) h
theorem u22_6 {d : Nat} {l0 : Nat} {l2 : Int} {M : Mem} {K : KK} {Q : RR → Mem → KK → Prop} (hK : K.1 = 923) (hX : FX M) (k0 : isO 923 l0 2 = true) (h : Wp (d + 1) 22 8 [vR l0, vR 33, vI l2, vI (0 : Int), vU] [] M K Q) : Wp (d + 1) 22 6 [vR l0, vR 33, vI l2, vU, vU] [] M K Q := by
  refine r_iconst c22_6 ?_
  refine r_istore_n c22_7 (Nat.le_of_ble_eq_true rfl) ?_
  exact h
theorem u22_8 {d : Nat} {l0 : Nat} {l2 : Int} {l3 : Int} {l4 : PV} {M : Mem} {K : KK} {Q : RR → Mem → KK → Prop} (hK : K.1 = 923) (hX : FX M) (k0 : isO 923 l0 2 = true) (h : ((150 : Int) ≤ l3 → Q (.inl none) M K) ∧ (¬ ((150 : Int) ≤ l3) → ∃ B2 : BY, ∃ n3 : Nat, ∃ st4 : ST, TR B2 n3 M st4 ∧ (∀ (M8 : Mem), FX M8 → (FrT M M8 ∧ TR B2 n3 M8 st4 ∧ AtE M8 st4) → ((pk B2 n3 st4) = (42 : Int) → ∃ B10 : BY, ∃ n11 : Nat, ∃ st12 : ST, (TR B10 n11 M8 st12 ∧ AtE M8 st12) ∧ (∀ (M16 : Mem), FX M16 → (FrT M8 M16 ∧ TR B10 n11 M16 (tSkip B10 n11 st12)) → Wm d 23 [vR l0, vR 33, vI l2] M16 K (Bk d 22 50 53 23 [vR l0, vR 33, vI l2, vI l3, vI (pk B2 n3 st4)] [] Q))) ∧ (¬ ((pk B2 n3 st4) = (42 : Int)) → ((pk B2 n3 st4) = (47 : Int) → ∃ B18 : BY, ∃ n19 : Nat, ∃ st20 : ST, (TR B18 n19 M8 st20 ∧ AtE M8 st20) ∧ (∀ (M24 : Mem), FX M24 → (FrT M8 M24 ∧ TR B18 n19 M24 (tSkip B18 n19 st20)) → Wm d 23 [vR l0, vR 33, vI l2] M24 K (Bk d 22 50 53 23 [vR l0, vR 33, vI l2, vI l3, vI (pk B2 n3 st4)] [] Q))) ∧ (¬ ((pk B2 n3 st4) = (47 : Int)) → ((pk B2 n3 st4) = (37 : Int) → ∃ B26 : BY, ∃ n27 : Nat, ∃ st28 : ST, (TR B26 n27 M8 st28 ∧ AtE M8 st28) ∧ (∀ (M32 : Mem), FX M32 → (FrT M8 M32 ∧ TR B26 n27 M32 (tSkip B26 n27 st28)) → Wm d 23 [vR l0, vR 33, vI l2] M32 K (Bk d 22 50 53 23 [vR l0, vR 33, vI l2, vI l3, vI (pk B2 n3 st4)] [] Q))) ∧ (¬ ((pk B2 n3 st4) = (37 : Int)) → Q (.inl none) M8 K)))))) : Wp (d + 1) 22 8 [vR l0, vR 33, vI l2, vI l3, l4] [] M K Q := by
  refine r_iload_n c22_8 rfl ?_
  refine r_sipush c22_9 ?_
  refine r_icmpP (P := (150 : Int) ≤ l3) c22_12 rfl (fun hc1 => ?_) (fun hc1 => ?_)
  · replace h := h.1 hc1
    exact r_ret c22_92 h
  · replace h := h.2 hc1
    refine r_aload_n c22_15 rfl ?_
    obtain ⟨B2, h⟩ := h
    obtain ⟨n3, h⟩ := h
    obtain ⟨st4, h⟩ := h
    obtain ⟨p5, h⟩ := h
    refine r_call c22_16 rfl rfl (Nat.le_of_ble_eq_true rfl) (okc_r rfl rfl (oK hK o33)) (g88 hK hX p5 (fun M8 x6 p7 => Bk_v ?_))
    replace h := h M8 x6 p7
    refine r_istore c22_19 (Nat.le_of_ble_eq_true rfl) ?_
    refine r_iload c22_21 rfl ?_
    refine r_bipush c22_23 ?_
    refine r_icmpP (P := (pk B2 n3 st4) = (42 : Int)) c22_25 rfl (fun hc9 => ?_) (fun hc9 => ?_)
    · replace h := h.1 hc9
      refine r_aload_n c22_43 rfl ?_
      obtain ⟨B10, h⟩ := h
      obtain ⟨n11, h⟩ := h
      obtain ⟨st12, h⟩ := h
      obtain ⟨p13, h⟩ := h
      refine r_call c22_44 rfl rfl (Nat.le_of_ble_eq_true rfl) (okc_r rfl rfl (oK hK o33)) (g90 hK x6 p13 (fun M16 x14 p15 => Bk_n ?_))
      replace h := h M16 x14 p15
      refine r_aload_n c22_47 rfl ?_
      refine r_aload_n c22_48 rfl ?_
      refine r_iload_n c22_49 rfl ?_
      exact r_call c22_50 rfl rfl (Nat.le_of_ble_eq_true rfl) (okc_r rfl rfl (oK hK k0)) h
    · replace h := h.2 hc9
      refine r_iload c22_28 rfl ?_
      refine r_bipush c22_30 ?_
      refine r_icmpP (P := (pk B2 n3 st4) = (47 : Int)) c22_32 rfl (fun hc17 => ?_) (fun hc17 => ?_)
      · replace h := h.1 hc17
        refine r_aload_n c22_43 rfl ?_
        obtain ⟨B18, h⟩ := h
        obtain ⟨n19, h⟩ := h
        obtain ⟨st20, h⟩ := h
        obtain ⟨p21, h⟩ := h
        refine r_call c22_44 rfl rfl (Nat.le_of_ble_eq_true rfl) (okc_r rfl rfl (oK hK o33)) (g90 hK x6 p21 (fun M24 x22 p23 => Bk_n ?_))
        replace h := h M24 x22 p23
        refine r_aload_n c22_47 rfl ?_
        refine r_aload_n c22_48 rfl ?_
        refine r_iload_n c22_49 rfl ?_
        exact r_call c22_50 rfl rfl (Nat.le_of_ble_eq_true rfl) (okc_r rfl rfl (oK hK k0)) h
      · replace h := h.2 hc17
        refine r_iload c22_35 rfl ?_
        refine r_bipush c22_37 ?_
        refine r_icmpP (P := (pk B2 n3 st4) = (37 : Int)) c22_39 rfl (fun hc25 => ?_) (fun hc25 => ?_)
        · replace h := h.1 hc25
          refine r_aload_n c22_43 rfl ?_
          obtain ⟨B26, h⟩ := h
          obtain ⟨n27, h⟩ := h
          obtain ⟨st28, h⟩ := h
          obtain ⟨p29, h⟩ := h
          refine r_call c22_44 rfl rfl (Nat.le_of_ble_eq_true rfl) (okc_r rfl rfl (oK hK o33)) (g90 hK x6 p29 (fun M32 x30 p31 => Bk_n ?_))
          replace h := h M32 x30 p31
          refine r_aload_n c22_47 rfl ?_
          refine r_aload_n c22_48 rfl ?_
          refine r_iload_n c22_49 rfl ?_
          exact r_call c22_50 rfl rfl (Nat.le_of_ble_eq_true rfl) (okc_r rfl rfl (oK hK k0)) h
        · replace h := h.2 hc25
          exact r_ret c22_42 h
theorem u22_53 {d : Nat} {l0 : Nat} {l2 : Int} {l3 : Int} {l4 : Int} {M : Mem} {K : KK} {Q : RR → Mem → KK → Prop} (hK : K.1 = 923) (hX : FX M) (k0 : isO 923 l0 2 = true) (h : (¬ l4 = (42 : Int) → (¬ l4 = (47 : Int) → ∃ o5 : Option LC, CRo M l0 o5 ∧ (∀ (M9 : Mem), FX M9 → (FrC l0 M M9 ∧ ∀ o' : Option LC, (o' = none ∨ ∃ L c, o5 = some L ∧ o' = some (L ++ [c]) ∧ L.length < 150 ∧ (2004 : Int) = encC c) → CRo M9 l0 o') → Wp (d + 1) 22 8 [vR l0, vR 33, vI l2, vI (w32 (l3 + 1)), vI l4] [] M9 K Q)) ∧ (l4 = (47 : Int) → ∃ o10 : Option LC, CRo M l0 o10 ∧ (∀ (M14 : Mem), FX M14 → (FrC l0 M M14 ∧ ∀ o' : Option LC, (o' = none ∨ ∃ L c, o10 = some L ∧ o' = some (L ++ [c]) ∧ L.length < 150 ∧ (2003 : Int) = encC c) → CRo M14 l0 o') → Wp (d + 1) 22 8 [vR l0, vR 33, vI l2, vI (w32 (l3 + 1)), vI l4] [] M14 K Q))) ∧ (l4 = (42 : Int) → ∃ o15 : Option LC, CRo M l0 o15 ∧ (∀ (M19 : Mem), FX M19 → (FrC l0 M M19 ∧ ∀ o' : Option LC, (o' = none ∨ ∃ L c, o15 = some L ∧ o' = some (L ++ [c]) ∧ L.length < 150 ∧ (2002 : Int) = encC c) → CRo M19 l0 o') → Wp (d + 1) 22 8 [vR l0, vR 33, vI l2, vI (w32 (l3 + 1)), vI l4] [] M19 K Q))) : Wp (d + 1) 22 53 [vR l0, vR 33, vI l2, vI l3, vI l4] [] M K Q := by
  refine r_aload_n c22_53 rfl ?_
  refine r_iload c22_54 rfl ?_
  refine r_bipush c22_56 ?_
  refine r_icmpP (P := ¬ l4 = (42 : Int)) c22_58 rfl (fun hc1 => ?_) (fun hc1 => ?_)
  · replace h := h.1 hc1
    refine r_iload c22_67 rfl ?_
    refine r_bipush c22_69 ?_
    refine r_icmpP (P := ¬ l4 = (47 : Int)) c22_71 rfl (fun hc3 => ?_) (fun hc3 => ?_)
    · replace h := h.1 hc3
      refine r_sipush c22_80 ?_
      obtain ⟨o5, h⟩ := h
      obtain ⟨p6, h⟩ := h
      refine r_call c22_83 rfl rfl (Nat.le_of_ble_eq_true rfl) (okc_r rfl rfl (oK hK k0)) (g20 hK hX k0 p6 (fun M9 x7 p8 => Bk_n ?_))
      replace h := h M9 x7 p8
      refine r_iinc c22_86 rfl ?_
      refine r_goto c22_89 ?_
      exact h
    · have hc4 := Classical.not_not.mp hc3
      replace h := h.2 hc4
      refine r_sipush c22_74 ?_
      refine r_goto c22_77 ?_
      obtain ⟨o10, h⟩ := h
      obtain ⟨p11, h⟩ := h
      refine r_call c22_83 rfl rfl (Nat.le_of_ble_eq_true rfl) (okc_r rfl rfl (oK hK k0)) (g20 hK hX k0 p11 (fun M14 x12 p13 => Bk_n ?_))
      replace h := h M14 x12 p13
      refine r_iinc c22_86 rfl ?_
      refine r_goto c22_89 ?_
      exact h
  · have hc2 := Classical.not_not.mp hc1
    replace h := h.2 hc2
    refine r_sipush c22_61 ?_
    refine r_goto c22_64 ?_
    obtain ⟨o15, h⟩ := h
    obtain ⟨p16, h⟩ := h
    refine r_call c22_83 rfl rfl (Nat.le_of_ble_eq_true rfl) (okc_r rfl rfl (oK hK k0)) (g20 hK hX k0 p16 (fun M19 x17 p18 => Bk_n ?_))
    replace h := h M19 x17 p18
    refine r_iinc c22_86 rfl ?_
    refine r_goto c22_89 ?_
    exact h
theorem u21_0 {d : Nat} {l0 : Nat} {l2 : Int} {M : Mem} {K : KK} {Q : RR → Mem → KK → Prop} (hK : K.1 = 923) (hX : FX M) (k0 : isO 923 l0 2 = true) (h : Wm d 22 [vR l0, vR 33, vI l2] M K (Bk d 21 3 6 22 [vR l0, vR 33, vI l2, vU, vU] [] Q)) : Wp (d + 1) 21 0 [vR l0, vR 33, vI l2, vU, vU] [] M K Q := by
  refine r_aload_n c21_0 rfl ?_
  refine r_aload_n c21_1 rfl ?_
  refine r_iload_n c21_2 rfl ?_
  exact r_call c21_3 rfl rfl (Nat.le_of_ble_eq_true rfl) (okc_r rfl rfl (oK hK k0)) h
theorem u21_6 {d : Nat} {l0 : Nat} {l2 : Int} {M : Mem} {K : KK} {Q : RR → Mem → KK → Prop} (hK : K.1 = 923) (hX : FX M) (k0 : isO 923 l0 2 = true) (h : Wp (d + 1) 21 8 [vR l0, vR 33, vI l2, vI (0 : Int), vU] [] M K Q) : Wp (d + 1) 21 6 [vR l0, vR 33, vI l2, vU, vU] [] M K Q := by
  refine r_iconst c21_6 ?_
  refine r_istore_n c21_7 (Nat.le_of_ble_eq_true rfl) ?_
  exact h
theorem u21_8 {d : Nat} {l0 : Nat} {l2 : Int} {l3 : Int} {l4 : PV} {M : Mem} {K : KK} {Q : RR → Mem → KK → Prop} (hK : K.1 = 923) (hX : FX M) (k0 : isO 923 l0 2 = true) (h : ((150 : Int) ≤ l3 → Q (.inl none) M K) ∧ (¬ ((150 : Int) ≤ l3) → ∃ B2 : BY, ∃ n3 : Nat, ∃ st4 : ST, TR B2 n3 M st4 ∧ (∀ (M8 : Mem), FX M8 → (FrT M M8 ∧ TR B2 n3 M8 st4 ∧ AtE M8 st4) → ((pk B2 n3 st4) = (43 : Int) → ∃ B10 : BY, ∃ n11 : Nat, ∃ st12 : ST, (TR B10 n11 M8 st12 ∧ AtE M8 st12) ∧ (∀ (M16 : Mem), FX M16 → (FrT M8 M16 ∧ TR B10 n11 M16 (tSkip B10 n11 st12)) → Wm d 22 [vR l0, vR 33, vI l2] M16 K (Bk d 21 43 46 22 [vR l0, vR 33, vI l2, vI l3, vI (pk B2 n3 st4)] [] Q))) ∧ (¬ ((pk B2 n3 st4) = (43 : Int)) → ((pk B2 n3 st4) = (45 : Int) → ∃ B18 : BY, ∃ n19 : Nat, ∃ st20 : ST, (TR B18 n19 M8 st20 ∧ AtE M8 st20) ∧ (∀ (M24 : Mem), FX M24 → (FrT M8 M24 ∧ TR B18 n19 M24 (tSkip B18 n19 st20)) → Wm d 22 [vR l0, vR 33, vI l2] M24 K (Bk d 21 43 46 22 [vR l0, vR 33, vI l2, vI l3, vI (pk B2 n3 st4)] [] Q))) ∧ (¬ ((pk B2 n3 st4) = (45 : Int)) → Q (.inl none) M8 K))))) : Wp (d + 1) 21 8 [vR l0, vR 33, vI l2, vI l3, l4] [] M K Q := by
  refine r_iload_n c21_8 rfl ?_
  refine r_sipush c21_9 ?_
  refine r_icmpP (P := (150 : Int) ≤ l3) c21_12 rfl (fun hc1 => ?_) (fun hc1 => ?_)
  · replace h := h.1 hc1
    exact r_ret c21_72 h
  · replace h := h.2 hc1
    refine r_aload_n c21_15 rfl ?_
    obtain ⟨B2, h⟩ := h
    obtain ⟨n3, h⟩ := h
    obtain ⟨st4, h⟩ := h
    obtain ⟨p5, h⟩ := h
    refine r_call c21_16 rfl rfl (Nat.le_of_ble_eq_true rfl) (okc_r rfl rfl (oK hK o33)) (g88 hK hX p5 (fun M8 x6 p7 => Bk_v ?_))
    replace h := h M8 x6 p7
    refine r_istore c21_19 (Nat.le_of_ble_eq_true rfl) ?_
    refine r_iload c21_21 rfl ?_
    refine r_bipush c21_23 ?_
    refine r_icmpP (P := (pk B2 n3 st4) = (43 : Int)) c21_25 rfl (fun hc9 => ?_) (fun hc9 => ?_)
    · replace h := h.1 hc9
      refine r_aload_n c21_36 rfl ?_
      obtain ⟨B10, h⟩ := h
      obtain ⟨n11, h⟩ := h
      obtain ⟨st12, h⟩ := h
      obtain ⟨p13, h⟩ := h
      refine r_call c21_37 rfl rfl (Nat.le_of_ble_eq_true rfl) (okc_r rfl rfl (oK hK o33)) (g90 hK x6 p13 (fun M16 x14 p15 => Bk_n ?_))
      replace h := h M16 x14 p15
      refine r_aload_n c21_40 rfl ?_
      refine r_aload_n c21_41 rfl ?_
      refine r_iload_n c21_42 rfl ?_
      exact r_call c21_43 rfl rfl (Nat.le_of_ble_eq_true rfl) (okc_r rfl rfl (oK hK k0)) h
    · replace h := h.2 hc9
      refine r_iload c21_28 rfl ?_
      refine r_bipush c21_30 ?_
      refine r_icmpP (P := (pk B2 n3 st4) = (45 : Int)) c21_32 rfl (fun hc17 => ?_) (fun hc17 => ?_)
      · replace h := h.1 hc17
        refine r_aload_n c21_36 rfl ?_
        obtain ⟨B18, h⟩ := h
        obtain ⟨n19, h⟩ := h
        obtain ⟨st20, h⟩ := h
        obtain ⟨p21, h⟩ := h
        refine r_call c21_37 rfl rfl (Nat.le_of_ble_eq_true rfl) (okc_r rfl rfl (oK hK o33)) (g90 hK x6 p21 (fun M24 x22 p23 => Bk_n ?_))
        replace h := h M24 x22 p23
        refine r_aload_n c21_40 rfl ?_
        refine r_aload_n c21_41 rfl ?_
        refine r_iload_n c21_42 rfl ?_
        exact r_call c21_43 rfl rfl (Nat.le_of_ble_eq_true rfl) (okc_r rfl rfl (oK hK k0)) h
      · replace h := h.2 hc17
        exact r_ret c21_35 h
theorem u21_46 {d : Nat} {l0 : Nat} {l2 : Int} {l3 : Int} {l4 : Int} {M : Mem} {K : KK} {Q : RR → Mem → KK → Prop} (hK : K.1 = 923) (hX : FX M) (k0 : isO 923 l0 2 = true) (h : (¬ l4 = (43 : Int) → ∃ o3 : Option LC, CRo M l0 o3 ∧ (∀ (M7 : Mem), FX M7 → (FrC l0 M M7 ∧ ∀ o' : Option LC, (o' = none ∨ ∃ L c, o3 = some L ∧ o' = some (L ++ [c]) ∧ L.length < 150 ∧ (2001 : Int) = encC c) → CRo M7 l0 o') → Wp (d + 1) 21 8 [vR l0, vR 33, vI l2, vI (w32 (l3 + 1)), vI l4] [] M7 K Q)) ∧ (l4 = (43 : Int) → ∃ o8 : Option LC, CRo M l0 o8 ∧ (∀ (M12 : Mem), FX M12 → (FrC l0 M M12 ∧ ∀ o' : Option LC, (o' = none ∨ ∃ L c, o8 = some L ∧ o' = some (L ++ [c]) ∧ L.length < 150 ∧ (2000 : Int) = encC c) → CRo M12 l0 o') → Wp (d + 1) 21 8 [vR l0, vR 33, vI l2, vI (w32 (l3 + 1)), vI l4] [] M12 K Q))) : Wp (d + 1) 21 46 [vR l0, vR 33, vI l2, vI l3, vI l4] [] M K Q := by
  refine r_aload_n c21_46 rfl ?_
  refine r_iload c21_47 rfl ?_
  refine r_bipush c21_49 ?_
  refine r_icmpP (P := ¬ l4 = (43 : Int)) c21_51 rfl (fun hc1 => ?_) (fun hc1 => ?_)
  · replace h := h.1 hc1
    refine r_sipush c21_60 ?_
    obtain ⟨o3, h⟩ := h
    obtain ⟨p4, h⟩ := h
    refine r_call c21_63 rfl rfl (Nat.le_of_ble_eq_true rfl) (okc_r rfl rfl (oK hK k0)) (g20 hK hX k0 p4 (fun M7 x5 p6 => Bk_n ?_))
    replace h := h M7 x5 p6
    refine r_iinc c21_66 rfl ?_
    refine r_goto c21_69 ?_
    exact h
  · have hc2 := Classical.not_not.mp hc1
    replace h := h.2 hc2
    refine r_sipush c21_54 ?_
    refine r_goto c21_57 ?_
    obtain ⟨o8, h⟩ := h
    obtain ⟨p9, h⟩ := h
    refine r_call c21_63 rfl rfl (Nat.le_of_ble_eq_true rfl) (okc_r rfl rfl (oK hK k0)) (g20 hK hX k0 p9 (fun M12 x10 p11 => Bk_n ?_))
    replace h := h M12 x10 p11
    refine r_iinc c21_66 rfl ?_
    refine r_goto c21_69 ?_
    exact h
theorem u19_0 {d : Nat} {l0 : Nat} {M : Mem} {K : KK} {Q : RR → Mem → KK → Prop} (hK : K.1 = 923) (hX : FX M) (k0 : isO 923 l0 2 = true) (h : Wm (d + 1) 21 [vR l0, vR 33, vI (0 : Int)] (mset M l0 3 (0 : Int)) K (Bk (d + 1) 19 8 11 21 [vR l0, vR 33] [] Q)) : Wp (d + 2) 19 0 [vR l0, vR 33] [] M K Q := by
  refine r_aload_n c19_0 rfl ?_
  refine r_iconst c19_1 ?_
  refine r_putI c19_2 (oK hK k0) ?_
  have x1 := FX.set (v := (0 : Int)) (a := l0) (k := 3) hX (nf2 k0 (by decide))
  refine r_aload_n c19_5 rfl ?_
  refine r_aload_n c19_6 rfl ?_
  refine r_iconst c19_7 ?_
  exact r_call c19_8 rfl rfl (Nat.le_of_ble_eq_true rfl) (okc_r rfl rfl (oK hK k0)) h
theorem u19_11 {d : Nat} {l0 : Nat} {M : Mem} {K : KK} {Q : RR → Mem → KK → Prop} (hK : K.1 = 923) (hX : FX M) (k0 : isO 923 l0 2 = true) (h : ∃ B1 : BY, ∃ n2 : Nat, ∃ st3 : ST, (TR B1 n2 M st3 ∧ ∀ i, i < n2 → B1 i ≠ -1) ∧ (∀ (M7 : Mem), FX M7 → (FrT M M7 ∧ TR B1 n2 M7 (tEnd n2 st3)) → Q (.inl none) M7 K)) : Wp (d + 2) 19 11 [vR l0, vR 33] [] M K Q := by
  refine r_aload_n c19_11 rfl ?_
  obtain ⟨B1, h⟩ := h
  obtain ⟨n2, h⟩ := h
  obtain ⟨st3, h⟩ := h
  obtain ⟨p4, h⟩ := h
  refine r_call c19_12 rfl rfl (Nat.le_of_ble_eq_true rfl) (okc_r rfl rfl (oK hK o33)) (g96 hK hX p4 (fun M7 x5 p6 => Bk_n ?_))
  replace h := h M7 x5 p6
  exact r_ret c19_15 h
section LC3
variable {B : BY} {n : Nat}
theorem FL1_pair {S : XL → XL} (h : FL1 S) {k : Int} : FL1 (pairF B n S k) := by
  intro f L
  simp only [pairF, tSign]
  obtain ⟨a, ha⟩ : ∃ a, S (Sum.inr f, L) = (.inr f, a) := ⟨_, Prod.ext (h f L) rfl⟩
  rw [ha]
  dsimp only
  have := h f a
  rw [this]
theorem FL1_u {O : Option (XL → XL)} : FL1 (uF B n O) := fun f L => rfl
theorem FL1_prodL {U : XL → XL} : ∀ f, FL1 (prodL B n U f) := by
  intro f
  cases f with
  | zero => intro f L; rfl
  | succ f =>
    intro g L
    simp only [prodL]
    rw [if_neg (by simp [pk])]
theorem FL1_sumL {U : XL → XL} : ∀ f, FL1 (sumL B n U f) := by
  intro f
  cases f with
  | zero => intro f L; rfl
  | succ f =>
    intro g L
    simp only [sumL]
    rw [if_neg (by simp [pk])]
theorem FL1_then {U V : XL → XL} (h1 : FL1 U) (h2 : FL1 V) : FL1 (fun x => V (U x)) := by
  intro f L
  obtain ⟨a, ha⟩ : ∃ a, U (Sum.inr f, L) = (.inr f, a) := ⟨_, Prod.ext (h1 f L) rfl⟩
  simp only [ha]
  exact h2 f a
theorem FL1_prodF {U : XL → XL} (h : FL1 U) : FL1 (fun x => prodL B n U 150 (U x)) := FL1_then h (FL1_prodL 150)
theorem FL1_sumF {U : XL → XL} (h : FL1 U) : FL1 (fun x => sumL B n U 150 (U x)) := FL1_then h (FL1_sumL 150)
theorem FL1_pSm : ∀ r, FL1 (pSm B n r) := by
  intro r
  cases r with
  | zero => exact FL1_sumF (FL1_prodF FL1_u)
  | succ r => exact FL1_sumF (FL1_prodF FL1_u)
/-- behind the word: the unit goes on -/
theorem unit68 {O : Option (XL → XL)} {D : Nat} {op : Int} (hn : n ≤ 150) (hop : 0 ≤ op ∧ op ≤ 6) (hO : ∀ S, O = some S → op < 6 ∧ CtL B n D 21 [vI (op + 1)] S ∧ GX1 B n S ∧ FL1 S) (hN : O = none → op = 6)
    {d : Nat} {M M2 : Mem} {K : KK} {Q : RR → Mem → KK → Prop} {l : Nat} {st : ST} {L : LC} {s : Nat} {p e : Nat} (hd : D + 2 ≤ d + 2) (hK : K.1 = 923) (hl : isO 923 l 2 = true) (hw : STw B n st) (hg : GL s (st, L))
    (x2 : FX M2) (f2 : FrL l M M2) (t2 : TR B n M2 (tWord B n st)) (wa : WA n M2 p e) (wq : WQ B n st p e) (c2 : CRo M2 l (oo (st, L))) (hdig : ¬ isD (pk B n st) = true)
    (kk : ∀ M', FX M' → FrL l M M' → TR B n M' (uF B n O (st, L)).1 → CRo M' l (oo (uF B n O (st, L))) → Q (.inl none) M' K) (t b : Int) (hb : b = if pk B n st = 40 then 1 else 0) (ht : t = if wdL (M2 34) p e = wL 8 ∨ wdL (M2 34) p e = wL 9 then 1 else 0) :
    Wp (d + 3) 23 68 [vR l, vR 33, vI op, vI b, vI (nmOf (wdL (M2 34) p e) [10, 11, 12, 13, 14, 15, 16, 17] 0), vU] [vI t] M2 K Q := by
  have hnm := nmOf_lt (w := wdL (M2 34) p e) [10, 11, 12, 13, 14, 15, 16, 17] 0
  have hwd : wdL (M2 34) p e = wdL B p e := wdL_c t2 wa.2.2.2.1
  have hWAt : ∀ {M3 : Mem} {st3 : ST}, TR B n M3 st3 → True := fun _ => trivial
  -- the end at 174
  have fin : ∀ {l3 l4 l5 : Int} (M3 : Mem), FX M3 → FrL l M M3 → TR B n M3 (uF B n O (st, L)).1 → CRo M3 l (oo (uF B n O (st, L))) → Wp (d + 3) 23 173 [vR l, vR 33, vI op, vI l3, vI l4, vI l5] [] M3 K Q := fun M3 x3 f3 t3 c3 => u23_173 hK x3 hl (kk M3 x3 f3 t3 c3)
  cases st with
  | inr f =>
    have hu : uF B n O (.inr f, L) = (.inr f, L) := rfl
    have hb0 : b = 0 := by rw [hb, if_neg (by simp [pk])]
    have t2' : TR B n M2 (.inr f) := t2
    have c2' : CRo M2 l none := c2
    rw [hu] at fin
    -- what is not known of the codes
    refine u23_68 hK x2 hl ⟨fun h1 => ⟨fun hb9 => absurd hb0 hb9, fun _ => ⟨fun ht9 => ?_, fun ht9 => ⟨B, n, _, p, e, ⟨t2', by decide, wa⟩, fun M3 x3 p3 => fin M3 x3 (f2.tr p3.1.L) p3.2 (c2'.t hl p3.1)⟩⟩⟩, fun h1 => ⟨none, c2', fun M3 x3 p3 => fin M3 x3 (f2.tr p3.1.L) (t2'.c hl p3.1) (p3.2 none (Or.inl rfl))⟩⟩
    subst hb0
    refine u23_106 hK x2 hl ⟨fun hlt => ⟨fun _ => ⟨n, p, e, wa, fun hw8 => ?_, fun hw8 => ?_⟩, fun h0 => absurd rfl h0⟩, fun hge => ⟨B, n, _, p, e, ⟨t2', by decide, wa⟩, fun M3 x3 p3 => fin M3 x3 (f2.tr p3.1.L) p3.2 (c2'.t hl p3.1)⟩⟩
    · cases O with
      | none => have := hN rfl; omega
      | some S =>
        obtain ⟨h1, h2, h3, h4⟩ := hO S rfl
        rw [w32_id (by omega)]
        refine pair_ok hn (k := 8) (by decide) h2 h3 (d + 2) M2 K _ l (.inr f, L) 0 (by omega) hK x2 hl t2' c2' (fun p hp => by cases hp) (fun M3 x3 f3 t3 c3 => Bk_n ?_)
        rw [FL1_pair h4 f L] at t3
        rw [FL1_oo (FL1_pair h4)] at c3
        exact fin M3 x3 (f2.tr f3) t3 c3
    · cases O with
      | none => have := hN rfl; omega
      | some S =>
        obtain ⟨h1, h2, h3, h4⟩ := hO S rfl
        rw [w32_id (by omega)]
        refine pair_ok hn (k := 7) (by decide) h2 h3 (d + 2) M2 K _ l (.inr f, L) 0 (by omega) hK x2 hl t2' c2' (fun p hp => by cases hp) (fun M3 x3 f3 t3 c3 => Bk_n ?_)
        rw [FL1_pair h4 f L] at t3
        rw [FL1_oo (FL1_pair h4)] at c3
        exact fin M3 x3 (f2.tr f3) t3 c3
  | inl q =>
    obtain ⟨hpq, heq⟩ := wq q rfl
    subst hpq
    have c2' : CRo M2 l (some L) := c2
    have hwn : wdL (M2 34) p e = wdL B p (sp isS B n p) := by rw [hwd, heq]
    rw [hwn] at hnm ht ⊢
    have hsig : pk B n (.inl p) = 40 → sp isS B n p = p := by
      intro h40
      have := (pk_ok (by decide)).mp h40
      refine sp_no ?_
      rw [this.2]; decide
    have hu : uF B n O (.inl p, L) = if pk B n (.inl p) = 40 then O.elim (.inr (3, (p : Int)), L) (fun S => (tSign B n 41 (S (tSign B n 40 (.inl p), L)).1, (S (tSign B n 40 (.inl p), L)).2))
    else if nmOf (wdL B p (sp isS B n p)) [10, 11, 12, 13, 14, 15, 16, 17] 0 ≠ -1 then (tWord B n (.inl p), L ++ [(1, nmOf (wdL B p (sp isS B n p)) [10, 11, 12, 13, 14, 15, 16, 17] 0)])
    else if wdL B p (sp isS B n p) = wL 8 ∨ wdL B p (sp isS B n p) = wL 9 then O.elim (.inr (3, (p : Int)), L) (fun S => pairF B n S (if wdL B p (sp isS B n p) = wL 8 then 7 else 8) (tWord B n (.inl p), L))
    else (.inr (1, (p : Int)), L) := by
      simp only [uF]; rw [if_neg hdig]
    rw [hu] at fin
    by_cases hbr : pk B n (.inl p) = 40
    · -- a bracket
      rw [if_pos hbr] at hb fin
      subst hb
      have hsp := hsig hbr
      have hempty : wdL B p (sp isS B n p) = [] := by rw [hsp]; unfold wdL; simp
      have hnm1 : nmOf (wdL B p (sp isS B n p)) [10, 11, 12, 13, 14, 15, 16, 17] 0 = -1 := by rw [hempty]; decide +kernel
      rw [hnm1]
      have hskp : tWord B n (.inl p) = .inl p := by simp only [tWord]; rw [hsp]; exact congrArg Sum.inl hw.2
      rw [hskp] at t2
      refine u23_68 hK x2 hl ⟨fun _ => ⟨fun _ => ?_, fun h0 => absurd h0 (by decide)⟩, fun h1 => absurd rfl h1⟩
      refine u23_106 hK x2 hl ⟨fun hlt => ⟨fun h0 => absurd h0 (by decide), fun _ => ⟨B, n, _, ⟨t2, by decide⟩, fun M3 x3 p3 => ?_⟩⟩, fun hge => ⟨B, n, _, p, e, ⟨t2, by decide, wa⟩, fun M3 x3 p3 => ?_⟩⟩
      · cases O with
        | none => have := hN rfl; omega
        | some S =>
          obtain ⟨h1, h2, h3, h4⟩ := hO S rfl
          rw [w32_id (by omega)]
          have hsg : tSign B n 40 (.inl p) = .inl (sk B n (p + 1)) := by
            simp only [tSign]; rw [if_pos ((pk_ok (by decide)).mp hbr)]
          have c3 : CRo M3 l (oo (tSign B n 40 (.inl p), L)) := by rw [hsg]; exact c2'.t hl p3.1
          have hg3 := g_sign (c := 40) hw hg
          refine h2 (d + 2) M3 K _ l (tSign B n 40 (.inl p), L) (s + 1) (by omega) hK x3 hl p3.2 c3 hg3 (fun M4 x4 f4 t4 c4 => Bk_n ?_)
          refine u23_138 hK x4 hl ⟨B, n, _, ⟨t4, by decide⟩, fun M5 x5 p5 => fin M5 x5 (((f2.tr p3.1.L).tr f4).tr p5.1.L) p5.2 ?_⟩
          show CRo M5 l (oo (tSign B n 41 (S (tSign B n 40 (.inl p), L)).1, (S (tSign B n 40 (.inl p), L)).2))
          revert c4
          generalize S (tSign B n 40 (.inl p), L) = y
          intro c4
          obtain ⟨y1, y2⟩ := y
          cases y1 with
          | inr f => exact c4.t hl p5.1
          | inl p =>
            simp only [tSign]
            split
            · exact c4.t hl p5.1
            · exact (c4.t hl p5.1).w
      · cases O with
        | some S => have := (hO S rfl).1; omega
        | none => exact fin M3 x3 (f2.tr p3.1.L) p3.2 (c2'.t hl p3.1).w
    · rw [if_neg hbr] at hb fin
      subst hb
      by_cases hk1 : nmOf (wdL B p (sp isS B n p)) [10, 11, 12, 13, 14, 15, 16, 17] 0 = -1
      · rw [if_neg (by simp [hk1])] at fin
        rw [hk1]
        have hwd8 : wdL (M2 34) p e = wdL B p (sp isS B n p) := hwn
        by_cases hp8 : wdL B p (sp isS B n p) = wL 8 ∨ wdL B p (sp isS B n p) = wL 9
        · rw [if_pos hp8] at ht fin
          subst ht
          refine u23_68 hK x2 hl ⟨fun _ => ⟨fun h0 => absurd rfl h0, fun _ => ⟨fun _ => ?_, fun h0 => absurd h0 (by decide)⟩⟩, fun h1 => absurd rfl h1⟩
          have hgw : GL (s + 1) (tWord B n (.inl p), L) := by
            rcases hp8 with h | h
            · exact g_word hw.1 h (by decide) hg
            · exact g_word hw.1 h (by decide) hg
          refine u23_106 hK x2 hl ⟨fun hlt => ⟨fun _ => ⟨n, p, e, wa, fun hw8 => ?_, fun hw8 => ?_⟩, fun h0 => absurd rfl h0⟩, fun hge => ⟨B, n, _, p, e, ⟨t2, by decide, wa⟩, fun M3 x3 p3 => ?_⟩⟩
          · cases O with
            | none => have := hN rfl; omega
            | some S =>
              obtain ⟨h1, h2, h3, h4⟩ := hO S rfl
              rw [w32_id (by omega)]
              rw [hwd8] at hw8
              rw [if_neg hw8] at fin
              exact pair_ok hn (k := 8) (by decide) h2 h3 (d + 2) M2 K _ l (tWord B n (.inl p), L) (s + 1) (by omega) hK x2 hl t2 c2' hgw (fun M3 x3 f3 t3 c3 => Bk_n (fin M3 x3 (f2.tr f3) t3 c3))
          · cases O with
            | none => have := hN rfl; omega
            | some S =>
              obtain ⟨h1, h2, h3, h4⟩ := hO S rfl
              rw [w32_id (by omega)]
              rw [hwd8] at hw8
              rw [if_pos hw8] at fin
              exact pair_ok hn (k := 7) (by decide) h2 h3 (d + 2) M2 K _ l (tWord B n (.inl p), L) (s + 1) (by omega) hK x2 hl t2 c2' hgw (fun M3 x3 f3 t3 c3 => Bk_n (fin M3 x3 (f2.tr f3) t3 c3))
          · cases O with
            | some S => have := (hO S rfl).1; omega
            | none => exact fin M3 x3 (f2.tr p3.1.L) p3.2 (c2'.t hl p3.1).w
        · rw [if_neg hp8] at ht fin
          subst ht
          exact u23_68 hK x2 hl ⟨fun _ => ⟨fun h0 => absurd rfl h0, fun _ => ⟨fun h0 => absurd rfl h0, fun _ => ⟨B, n, _, p, e, ⟨t2, by decide, wa⟩, fun M3 x3 p3 => fin M3 x3 (f2.tr p3.1.L) p3.2 (c2'.t hl p3.1).w⟩⟩⟩, fun h1 => absurd rfl h1⟩
      · rw [if_pos hk1] at fin
        rcases hnm with h | ⟨h1, h2, a, ha, hwa⟩
        · exact absurd h hk1
        · have ha' : 2 ≤ a ∧ a < 25 := by simp at ha; omega
          have hgw : GL (s + 1) (tWord B n (.inl p), L) := g_word hw.1 hwa ha' hg
          simp only [List.length_cons, List.length_nil] at h2
          refine u23_68 hK x2 hl ⟨fun h0 => absurd h0 hk1, fun _ => ⟨some L, c2', fun M3 x3 p3 => fin M3 x3 (f2.tr p3.1.L) (t2.c hl p3.1) (p3.2 _ ?_)⟩⟩
          rcases oo_add (n := n) (c := (1, nmOf (wdL B p (sp isS B n p)) [10, 11, 12, 13, 14, 15, 16, 17] 0)) (n9 := 0) hn (w_word hw) hgw with h | ⟨L', c', h1', h2', h3', rfl⟩
          · exact Or.inl h
          · refine Or.inr ⟨L', _, ?_, h2', h3', ?_⟩
            · exact h1'
            · rw [w32_id (by omega)]; rfl
end LC3
section LC4
variable {B : BY} {n : Nat}
theorem oo_dn {y : XL} {M M' : Mem} {l : Nat} {st' : ST} (hl : isO 923 l 2 = true) (hf : FrT M M') (h : CRo M l (oo y)) (hs : ∀ f, y.1 = .inr f → st' = .inr f) : CRo M' l (oo (st', y.2)) := by
  obtain ⟨y1, y2⟩ := y
  cases y1 with
  | inr f =>
    have := hs f rfl
    subst this
    exact h.t hl hf
  | inl p =>
    cases st' with
    | inl q => exact h.t hl hf
    | inr g => exact (h.t hl hf).w
theorem unit_ok {O : Option (XL → XL)} {D : Nat} {op : Int} (hn : n ≤ 150) (hop : 0 ≤ op ∧ op ≤ 6) (hO : ∀ S, O = some S → op < 6 ∧ CtL B n D 21 [vI (op + 1)] S ∧ GX1 B n S ∧ FL1 S) (hN : O = none → op = 6) : CtL B n (D + 3) 23 [vI op] (uF B n O) := by
  rintro d M K Q l ⟨st, L⟩ s hd hK hX hl ht hc hg kk
  obtain ⟨d, rfl⟩ : ∃ d', d = d' + 3 := ⟨d - 3, by omega⟩
  have hw := ht.w
  refine u23_0 hK hX hl ⟨B, n, st, ht, fun M1 x1 p1 => ⟨fun hnd => ⟨B, n, st, p1.2.1, fun M2 x2 p2 => ⟨fun hbr => ?_, fun hbr => ?_⟩⟩, fun hd9 => ?_⟩⟩
  · refine ⟨B, n, st, p2.2.1, fun M3 x3 p3 => ?_⟩
    obtain ⟨f3, t3, p, e, wa, wq⟩ := p3
    have c3 : CRo M3 l (oo (st, L)) := ((hc.t hl p1.1).t hl p2.1).t hl f3
    have f9 : FrL l M M3 := ((p1.1.L).tr p2.1.L).tr f3.L
    have U := fun t => unit68 hn hop hO hN (d := d) (K := K) (Q := Q) (by omega) hK hl hw hg x3 f9 t3 wa wq c3 hnd kk t 0 (by rw [if_neg hbr])
    refine ⟨n, p, e, wa, n, p, e, wa, fun h8 => ?_, fun h8 => ⟨n, p, e, wa, fun h9 => ?_, fun h9 => ?_⟩⟩
    · exact U 1 (by rw [if_pos (Or.inl h8)])
    · exact U 0 (by rw [if_neg (by rintro (h | h); exact h8 h; exact h9 h)])
    · exact U 1 (by rw [if_pos (Or.inr h9)])
  · refine ⟨B, n, st, p2.2.1, fun M3 x3 p3 => ?_⟩
    obtain ⟨f3, t3, p, e, wa, wq⟩ := p3
    have c3 : CRo M3 l (oo (st, L)) := ((hc.t hl p1.1).t hl p2.1).t hl f3
    have f9 : FrL l M M3 := ((p1.1.L).tr p2.1.L).tr f3.L
    have U := fun t => unit68 hn hop hO hN (d := d) (K := K) (Q := Q) (by omega) hK hl hw hg x3 f9 t3 wa wq c3 hnd kk t 1 (by rw [if_pos hbr])
    refine ⟨n, p, e, wa, n, p, e, wa, fun h8 => ?_, fun h8 => ⟨n, p, e, wa, fun h9 => ?_, fun h9 => ?_⟩⟩
    · exact U 1 (by rw [if_pos (Or.inl h8)])
    · exact U 0 (by rw [if_neg (by rintro (h | h); exact h8 h; exact h9 h)])
    · exact U 1 (by rw [if_pos (Or.inr h9)])
  · cases st with
    | inr f => exact absurd hd9 (by simp [pk, isD])
    | inl q =>
      have hu : uF B n O (.inl q, L) = ((tNum B n 0 999 (.inl q)).2, L ++ [(0, (tNum B n 0 999 (.inl q)).1)]) := by
        simp only [uF]; rw [if_pos hd9]
      rw [hu] at kk
      refine ⟨B, n, _, p1.2.1, fun M2 x2 p2 => ?_⟩
      have c2 : CRo M2 l (oo ((tNum B n 0 999 (.inl q)).2, L)) := oo_dn (y := (.inl q, L)) hl p2.1 (hc.t hl p1.1) (fun f hf => by cases hf)
      refine ⟨_, c2, fun M3 x3 p3 => kk M3 x3 ((p1.1.L.tr p2.1.L).tr p3.1.L) (p2.2.c hl p3.1) (p3.2 _ ?_)⟩
      rcases oo_add (c := (0, (tNum B n 0 999 (.inl q)).1)) (n9 := 0) hn (w_num hw) (g_num hw hg) with h | ⟨L', c', h1, h2, h3, rfl⟩
      · exact Or.inl h
      · exact Or.inr ⟨L', _, h1, h2, h3, rfl⟩
theorem prod_ok {U : XL → XL} {D : Nat} {op : Int} (hn : n ≤ 150) (hU : CtL B n D 23 [vI op] U) (hG : GX1 B n U) (hF : FL1 U) : CtL B n (D + 1) 22 [vI op] (fun x => prodL B n U 150 (U x)) := by
  rintro d M K Q l x s hd hK hX hl ht hc hg kk
  obtain ⟨d, rfl⟩ : ∃ d', d = d' + 1 := ⟨d - 1, by omega⟩
  have loop : ∀ (f : Nat) (x : XL) (M1 : Mem) (i : Nat) (l4 : PV), i + f = 150 → FX M1 → FrL l M M1 → TR B n M1 x.1 → CRo M1 l (oo x) → GL s x → (∀ M', FX M' → FrL l M M' → TR B n M' (prodL B n U f x).1 → CRo M' l (oo (prodL B n U f x)) → Q (.inl none) M' K) → Wp (d + 1) 22 8 [vR l, vR 33, vI op, vI (i : Int), l4] [] M1 K Q := by
    intro f
    induction f with
    | zero =>
      intro x M1 i l4 hi x1 f1 t1 c1 g1 k1
      exact u22_8 hK x1 hl ⟨fun _ => k1 M1 x1 f1 t1 c1, fun h => by omega⟩
    | succ f ih =>
      rintro ⟨st, L⟩ M1 i l4 hi x1 f1 t1 c1 g1 k1
      simp only [prodL] at k1
      -- the sign is there
      have go : ∀ (M2 : Mem), FX M2 → FrT M1 M2 → TR B n M2 st → AtE M2 st → (pk B n st = 42 ∨ pk B n st = 47 ∨ pk B n st = 37) → ∃ (B' : BY) (n' : Nat) (st' : ST), (TR B' n' M2 st' ∧ AtE M2 st') ∧ ∀ M3, FX M3 → (FrT M2 M3 ∧ TR B' n' M3 (tSkip B' n' st')) → Wm d 23 [vR l, vR 33, vI op] M3 K (Bk d 22 50 53 23 [vR l, vR 33, vI op, vI (i : Int), vI (pk B n st)] [] Q) := by
        intro M2 x2 f2 t2 a2 hp
        rw [if_pos hp] at k1
        have hne : pk B n st ≠ -1 := by omega
        refine ⟨B, n, st, ⟨t2, a2⟩, fun M3 x3 p3 => ?_⟩
        have c3 : CRo M3 l (oo (tSkip B n st, L)) := oo_dn (y := (st, L)) hl p3.1 (c1.t hl f2) (fun f hf => by dsimp only at hf; subst hf; rfl)
        have g3 := g_skip hne g1
        refine hU d M3 K _ l (tSkip B n st, L) (s + 1) (by omega) hK x3 hl p3.2 c3 g3 (fun M4 x4 f4 t4 c4 => Bk_n ?_)
        have gU := hG _ _ (w_skip t1.w) g3
        have e3 : w32 ((i : Int) + 1) = ((i + 1 : Nat) : Int) := w1 (by omega)
        have fin : ∀ c M5, FX M5 → (FrC l M4 M5 ∧ ∀ o' : Option LC, (o' = none ∨ ∃ L9 c9, oo (U (tSkip B n st, L)) = some L9 ∧ o' = some (L9 ++ [c9]) ∧ L9.length < 150 ∧ encC (c, 0) = encC c9) → CRo M5 l o') → (c = if pk B n st = 42 then 4 else if pk B n st = 47 then 5 else 6) → Wp (d + 1) 22 8 [vR l, vR 33, vI op, vI (w32 ((i : Int) + 1)), vI (pk B n st)] [] M5 K Q := by
          intro c M5 x5 p5 hcc
          subst hcc
          rw [e3]
          refine ih ((U (tSkip B n st, L)).1, (U (tSkip B n st, L)).2 ++ [((if pk B n st = 42 then 4 else if pk B n st = 47 then 5 else 6), 0)]) M5 (i + 1) _ (by omega) x5 (((f1.tr f2.L).tr p3.1.L).tr (f4.tr p5.1.L)) (t4.c hl p5.1) (p5.2 _ ?_) gU.2.add k1
          rcases oo_add (c := (if pk B n st = 42 then 4 else if pk B n st = 47 then 5 else 6, 0)) (n9 := 0) hn gU.1 gU.2 with h | ⟨L', c', h1, h2, h3, rfl⟩
          · exact Or.inl h
          · exact Or.inr ⟨L', _, h1, h2, h3, rfl⟩
        refine u22_53 hK x4 hl ⟨fun h1 => ⟨fun h2 => ⟨_, c4, fun M5 x5 p5 => fin 6 M5 x5 p5 (by rw [if_neg h1, if_neg h2])⟩, fun h2 => ⟨_, c4, fun M5 x5 p5 => fin 5 M5 x5 p5 (by rw [if_neg h1, if_pos h2])⟩⟩, fun h1 => ⟨_, c4, fun M5 x5 p5 => fin 4 M5 x5 p5 (by rw [if_pos h1])⟩⟩
      refine u22_8 hK x1 hl ⟨fun h => by omega, fun _ => ⟨B, n, st, t1, fun M2 x2 p2 => ⟨fun h1 => go M2 x2 p2.1 p2.2.1 p2.2.2 (Or.inl h1), fun h1 => ⟨fun h2 => go M2 x2 p2.1 p2.2.1 p2.2.2 (Or.inr (Or.inl h2)), fun h2 => ⟨fun h3 => go M2 x2 p2.1 p2.2.1 p2.2.2 (Or.inr (Or.inr h3)), fun h3 => ?_⟩⟩⟩⟩⟩
      rw [if_neg (by rintro (h | h | h); exact h1 h; exact h2 h; exact h3 h)] at k1
      exact k1 M2 x2 (f1.tr p2.1.L) p2.2.1 (c1.t hl p2.1)
  refine u22_0 hK hX hl (hU d M K _ l x s (by omega) hK hX hl ht hc hg (fun M1 x1 f1 t1 c1 => Bk_n ?_))
  exact u22_6 hK x1 hl (loop 150 (U x) M1 0 vU (by omega) x1 f1 t1 c1 (hG x s ht.w hg).2 kk)
theorem sum_ok {U : XL → XL} {D : Nat} {op : Int} (hn : n ≤ 150) (hU : CtL B n D 22 [vI op] U) (hG : GX1 B n U) (hF : FL1 U) : CtL B n (D + 1) 21 [vI op] (fun x => sumL B n U 150 (U x)) := by
  rintro d M K Q l x s hd hK hX hl ht hc hg kk
  obtain ⟨d, rfl⟩ : ∃ d', d = d' + 1 := ⟨d - 1, by omega⟩
  have loop : ∀ (f : Nat) (x : XL) (M1 : Mem) (i : Nat) (l4 : PV), i + f = 150 → FX M1 → FrL l M M1 → TR B n M1 x.1 → CRo M1 l (oo x) → GL s x → (∀ M', FX M' → FrL l M M' → TR B n M' (sumL B n U f x).1 → CRo M' l (oo (sumL B n U f x)) → Q (.inl none) M' K) → Wp (d + 1) 21 8 [vR l, vR 33, vI op, vI (i : Int), l4] [] M1 K Q := by
    intro f
    induction f with
    | zero =>
      intro x M1 i l4 hi x1 f1 t1 c1 g1 k1
      exact u21_8 hK x1 hl ⟨fun _ => k1 M1 x1 f1 t1 c1, fun h => by omega⟩
    | succ f ih =>
      rintro ⟨st, L⟩ M1 i l4 hi x1 f1 t1 c1 g1 k1
      simp only [sumL] at k1
      have go : ∀ (M2 : Mem), FX M2 → FrT M1 M2 → TR B n M2 st → AtE M2 st → (pk B n st = 43 ∨ pk B n st = 45) → ∃ (B' : BY) (n' : Nat) (st' : ST), (TR B' n' M2 st' ∧ AtE M2 st') ∧ ∀ M3, FX M3 → (FrT M2 M3 ∧ TR B' n' M3 (tSkip B' n' st')) → Wm d 22 [vR l, vR 33, vI op] M3 K (Bk d 21 43 46 22 [vR l, vR 33, vI op, vI (i : Int), vI (pk B n st)] [] Q) := by
        intro M2 x2 f2 t2 a2 hp
        rw [if_pos hp] at k1
        have hne : pk B n st ≠ -1 := by omega
        refine ⟨B, n, st, ⟨t2, a2⟩, fun M3 x3 p3 => ?_⟩
        have c3 : CRo M3 l (oo (tSkip B n st, L)) := oo_dn (y := (st, L)) hl p3.1 (c1.t hl f2) (fun f hf => by dsimp only at hf; subst hf; rfl)
        have g3 := g_skip hne g1
        refine hU d M3 K _ l (tSkip B n st, L) (s + 1) (by omega) hK x3 hl p3.2 c3 g3 (fun M4 x4 f4 t4 c4 => Bk_n ?_)
        have gU := hG _ _ (w_skip t1.w) g3
        have e3 : w32 ((i : Int) + 1) = ((i + 1 : Nat) : Int) := w1 (by omega)
        have fin : ∀ c M5, FX M5 → (FrC l M4 M5 ∧ ∀ o' : Option LC, (o' = none ∨ ∃ L9 c9, oo (U (tSkip B n st, L)) = some L9 ∧ o' = some (L9 ++ [c9]) ∧ L9.length < 150 ∧ encC (c, 0) = encC c9) → CRo M5 l o') → (c = if pk B n st = 43 then 2 else 3) → Wp (d + 1) 21 8 [vR l, vR 33, vI op, vI (w32 ((i : Int) + 1)), vI (pk B n st)] [] M5 K Q := by
          intro c M5 x5 p5 hcc
          subst hcc
          rw [e3]
          refine ih ((U (tSkip B n st, L)).1, (U (tSkip B n st, L)).2 ++ [((if pk B n st = 43 then 2 else 3), 0)]) M5 (i + 1) _ (by omega) x5 (((f1.tr f2.L).tr p3.1.L).tr (f4.tr p5.1.L)) (t4.c hl p5.1) (p5.2 _ ?_) gU.2.add k1
          rcases oo_add (c := (if pk B n st = 43 then 2 else 3, 0)) (n9 := 0) hn gU.1 gU.2 with h | ⟨L', c', h1, h2, h3, rfl⟩
          · exact Or.inl h
          · exact Or.inr ⟨L', _, h1, h2, h3, rfl⟩
        refine u21_46 hK x4 hl ⟨fun h1 => ⟨_, c4, fun M5 x5 p5 => fin 3 M5 x5 p5 (by rw [if_neg h1])⟩, fun h1 => ⟨_, c4, fun M5 x5 p5 => fin 2 M5 x5 p5 (by rw [if_pos h1])⟩⟩
      refine u21_8 hK x1 hl ⟨fun h => by omega, fun _ => ⟨B, n, st, t1, fun M2 x2 p2 => ⟨fun h1 => go M2 x2 p2.1 p2.2.1 p2.2.2 (Or.inl h1), fun h1 => ⟨fun h2 => go M2 x2 p2.1 p2.2.1 p2.2.2 (Or.inr h2), fun h2 => ?_⟩⟩⟩⟩
      rw [if_neg (by rintro (h | h); exact h1 h; exact h2 h)] at k1
      exact k1 M2 x2 (f1.tr p2.1.L) p2.2.1 (c1.t hl p2.1)
  refine u21_0 hK hX hl (hU d M K _ l x s (by omega) hK hX hl ht hc hg (fun M1 x1 f1 t1 c1 => Bk_n ?_))
  exact u21_6 hK x1 hl (loop 150 (U x) M1 0 vU (by omega) x1 f1 t1 c1 (hG x s ht.w hg).2 kk)
theorem CtL.cg {D m : Nat} {ar : List PV} {F : XL → XL} {D' : Nat} (h : CtL B n D m ar F) (hd : D ≤ D') : CtL B n D' m ar F := fun d M K Q l x s h1 => h d M K Q l x s (by omega)
theorem pSm_ok (hn : n ≤ 150) : ∀ r, r ≤ 6 → CtL B n (6 * r + 5) 21 [vI (6 - (r : Int))] (pSm B n r) := by
  intro r
  induction r with
  | zero =>
    intro _
    exact (sum_ok hn (prod_ok hn (unit_ok (D := 0) (O := none) hn (by omega) (fun S h => by cases h) (fun _ => by omega)) (uF_g (fun S h => by cases h)) FL1_u) (prodF_g (uF_g (fun S h => by cases h))) (FL1_prodF FL1_u)).cg (by omega)
  | succ r ih =>
    intro hr
    have ih' := ih (by omega)
    have e : (6 : Int) - ((r + 1 : Nat) : Int) + 1 = 6 - (r : Int) := by omega
    refine (sum_ok hn (prod_ok hn (unit_ok (D := 6 * r + 5) (O := some (pSm B n r)) hn (by omega) (fun S h => ?_) (fun h => by cases h)) (uF_g (fun S h => by cases h; exact pSm_g r)) FL1_u) (prodF_g (uF_g (fun S h => by cases h; exact pSm_g r))) (FL1_prodF FL1_u)).cg (by omega)
    cases h
    rw [e]
    exact ⟨by omega, ih', pSm_g r, FL1_pSm r⟩
/-- the whole law -/
def pLaw (B : BY) (n : Nat) : XL := (tEnd n (pSm B n 6 (.inl (sk B n 0), [])).1, (pSm B n 6 (.inl (sk B n 0), [])).2)
theorem g19 {d l : Nat} {M : Mem} {K : KK} {Q : RR → Mem → KK → Prop} (hK : K.1 = 923) (hX : FX M) (hl : isO 923 l 2 = true) (h : n ≤ 150 ∧ (∀ i, i < n → B i ≠ -1) ∧ TR B n M (.inl (sk B n 0))) (k : ∀ M', FX M' → (FrL l M M' ∧ TR B n M' (pLaw B n).1 ∧ CRo M' l (oo (pLaw B n))) → Q (.inl none) M' K) : Wm (d + 50) 19 [vR l, vR 33] M K Q := by
  obtain ⟨hn, hB, ht⟩ := h
  have f0 : FrC l M (mset M l 3 0) := by
    intro a k' h1 h2
    simp only [mset]; rw [if_neg h2]
  have c0 : CRo (mset M l 3 0) l (some []) := ⟨by rw [ms_eq]; rfl, by decide, fun i hi => by simp at hi⟩
  refine u19_0 (d := d + 48) hK hX hl (pSm_ok hn 6 (by omega) (d + 49) _ K _ l (.inl (sk B n 0), []) 0 (by omega) hK (f0.fx hl hX) hl (ht.c hl f0) c0 (fun p _ => by simp) (fun M1 x1 f1 t1 c1 => Bk_n ?_))
  refine u19_11 hK x1 hl ⟨B, n, _, ⟨t1, hB⟩, fun M2 x2 p2 => k M2 x2 ⟨(f0.L.tr f1).tr p2.1.L, p2.2, ?_⟩⟩
  exact oo_dn (y := pSm B n 6 (.inl (sk B n 0), [])) hl p2.1 c1 (fun f hf => by rw [hf]; rfl)
end LC4
