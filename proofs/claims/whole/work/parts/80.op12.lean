/-! images: the model -/
section SOK
variable {d : Nat} {M M' : Mem} {K : KK} {Q : RR → Mem → KK → Prop} {nB : Nat} {B : BY} {fp : Int} {c : Mem} {L : LC} {s : Mem} {H : List Mem} {I : List IMG} {Y : LC} {rf ms wr : Int}
/-- t cells are kept in row a -/
def SvS (M : Mem) (a t : Nat) (M1 : Mem) : Prop := M1 440 39 = (t : Int) ∧ (∀ b k, b ≠ a → ¬ (b = 440 ∧ k = 39) → M1 b k = M b k) ∧ ∀ j, j < t → M1 a j = M (adA j) (adK j)
/-- t cells are back out of row a -/
def SvB (M : Mem) (a t : Nat) (M1 : Mem) : Prop := M1 440 39 = (t : Int) ∧ (∀ b k, ¬ (b = 440 ∧ k = 39) → (∀ j, j < t → ¬ (b = adA j ∧ k = adK j)) → M1 b k = M b k) ∧ ∀ j, j < t → M1 (adA j) (adK j) = M a j
theorem SvS.nx {a t : Nat} {M1 : Mem} (ha : 908 ≤ a ∧ a ≤ 910) (ht : t < 460) (h : SvS M a t M1) : SvS M a (t + 1) (mset (mset (mset M1 a t (M1 (adA t) (adK t))) 440 39 ((t + 1 : Nat) : Int)) (adA t) (adK t) (M1 (adA t) (adK t))) := by
  obtain ⟨h1, h2, h3⟩ := h
  have ar := ad_rg ht
  have hk : adA t = 440 → adK t = 36 := fun e => by
    have : t = 0 := by omega
    subst this; rfl
  refine ⟨?_, fun b k hb hk9 => ?_, fun j hj => ?_⟩
  · rw [show ∀ X : Mem, mset X (adA t) (adK t) (M1 (adA t) (adK t)) 440 39 = X 440 39 from fun X => by unfold mset; rw [if_neg (fun h9 => by have := hk h9.1.symm; omega)], ms_eq]
  · by_cases h9 : b = adA t ∧ k = adK t
    · obtain ⟨rfl, rfl⟩ := h9
      rw [ms_eq]; exact h2 _ _ hb hk9
    · unfold mset; rw [if_neg h9, if_neg hk9, if_neg (fun h8 => hb h8.1)]; exact h2 b k hb hk9
  · have e : (mset (mset (mset M1 a t (M1 (adA t) (adK t))) 440 39 ((t + 1 : Nat) : Int)) (adA t) (adK t) (M1 (adA t) (adK t))) a j = mset M1 a t (M1 (adA t) (adK t)) a j := by
      rw [ms_na (by omega), ms_na (by omega)]
    rw [e]
    by_cases hjt : j = t
    · subst hjt
      rw [ms_eq]; exact h2 _ _ (by omega) (fun h9 => by have := hk h9.1; omega)
    · rw [ms_nk hjt]; exact h3 j (by omega)
theorem SvB.nx {a t : Nat} {M1 : Mem} (ha : 908 ≤ a ∧ a ≤ 910) (ht : t < 460) (h : SvB M a t M1) : SvB M a (t + 1) (mset (mset M1 440 39 ((t + 1 : Nat) : Int)) (adA t) (adK t) (M1 a t)) := by
  obtain ⟨h1, h2, h3⟩ := h
  have ar := ad_rg ht
  have hk : adA t = 440 → adK t = 36 := fun e => by
    have : t = 0 := by omega
    subst this; rfl
  have eA : M1 a t = M a t := h2 _ _ (by omega) (fun j hj h9 => by have := ad_rg (t := j) (by omega); omega)
  refine ⟨?_, fun b k hk9 hj9 => ?_, fun j hj => ?_⟩
  · rw [show ∀ X : Mem, mset X (adA t) (adK t) (M1 a t) 440 39 = X 440 39 from fun X => by unfold mset; rw [if_neg (fun h9 => by have := hk h9.1.symm; omega)], ms_eq]
  · have h9 := hj9 t (by omega)
    unfold mset; rw [if_neg h9, if_neg hk9]; exact h2 b k hk9 (fun j hj => hj9 j (by omega))
  · by_cases hjt : j = t
    · subst hjt; rw [ms_eq]; exact eA
    · have ne : ¬ (adA j = adA t ∧ adK j = adK t) := fun h9 => hjt (ad_inj (by omega) ht h9.1 h9.2)
      have aj := ad_rg (t := j) (by omega)
      have hkj : adA j = 440 → adK j = 36 := fun e => by
        have : j = 0 := by omega
        subst this; rfl
      have ne2 : ¬ (adA j = 440 ∧ adK j = 39) := fun h9 => by have := hkj h9.1; omega
      unfold mset; rw [if_neg ne, if_neg ne2]; exact h3 j (by omega)
theorem ad_fx {t : Nat} (ht : t < 460) (k : Nat) (hk : k = adK t) : fxT (adA t) k = 0 := by
  have ar := ad_rg ht
  subst hk
  rcases ar with ⟨rfl, -⟩ | ar
  · exact nf440_36 36 (by omega)
  · by_cases h : adA t = 888
    · rw [h]; exact nfa cpy_o.1 _
    · obtain ⟨w, hw⟩ : ∃ w, adA t = 891 + w := ⟨adA t - 891, by omega⟩
      rw [hw]; exact nfa (bf_o w (by omega)).1 _
/-- both ways at once: f the flag, R what holds behind t cells -/
theorem g254 {a : Nat} {f : Int} {R : Nat → Mem → Prop} (hK : K.1 = 923) (hX : FX M) (ha : 908 ≤ a ∧ a ≤ 910) (h0 : R 0 (mset M 440 39 0))
    (hst : ∀ (d t : Nat) (M1 : Mem) (Q : RR → Mem → KK → Prop), t < 460 → FX M1 → R t M1 → (∀ (v : Int) M2, FX M2 → R (t + 1) (mset M2 (adA t) (adK t) v) → Q (.inl (some (vI v))) M2 K) → Wm d 253 [vR 440, vR a, vI (M1 (adA t) (adK t)), vI f] M1 K Q)
    (k : ∀ M', FX M' → R 460 M' → Q (.inl none) M' K) : Wm (d + 1) 254 [vR 440, vR a, vI f] M K Q := by
  refine u254_0 hK hX ?_
  have e0 : M 440 36 = mset M 440 39 0 (adA 0) (adK 0) := (ms_nk (by decide)).symm
  rw [e0]
  refine hst d 0 _ _ (by decide) (hX.set (nf440_36 39 (by omega))) h0 (fun v M2 x2 r2 => Bk_v (u254_16 hK x2 ?_))
  -- the rows of before
  have rows : ∀ fw w, w + fw = 16 → ∀ (v : PV) M1, FX M1 → R (28 + 27 * w) M1 → Wp (d + 1) 254 53 [vR 440, vR a, vI f, vI (w : Int), v] [] M1 K Q := by
    intro fw
    induction fw with
    | zero =>
      intro w hw v M1 x1 r1
      have : w = 16 := by omega
      subst this
      exact u254_53 hK x1 ⟨fun _ => k M1 x1 r1, fun h9 => absurd (by decide) h9⟩
    | succ fw ih =>
      intro w hw v M1 x1 r1
      refine u254_53 hK x1 ⟨fun h9 => absurd h9 (by omega), fun _ => ?_⟩
      have cells : ∀ fk q, q + fk = 27 → ∀ M1, FX M1 → R (28 + 27 * w + q) M1 → Wp (d + 1) 254 62 [vR 440, vR a, vI f, vI (w : Int), vI (q : Int)] [] M1 K Q := by
        intro fk
        induction fk with
        | zero =>
          intro q hq M1 x1 r1
          have : q = 27 := by omega
          subst this
          refine u254_62 hK x1 ⟨fun _ => ?_, fun h9 => absurd (by decide) h9⟩
          rw [w1 (by omega)]
          exact ih (w + 1) (by omega) _ M1 x1 (by rw [show 28 + 27 * (w + 1) = 28 + 27 * w + 27 by omega]; exact r1)
        | succ fk ihk =>
          intro q hq M1 x1 r1
          obtain ⟨e1, e2⟩ := ad_2 (w := w) (k := q) (by omega)
          refine u254_62 hK x1 ⟨fun h9 => absurd h9 (by omega), fun _ => ⟨by omega, by omega, by omega, ?_⟩⟩
          rw [Int.toNat_natCast, Int.toNat_natCast]
          have hs := hst d (28 + 27 * w + q) M1 (Bk d 254 89 92 253 [vR 440, vR a, vI f, vI (w : Int), vI (q : Int)] [vI (q : Int), vR (891 + w)] Q) (by omega) x1 r1
          rw [e1, e2] at hs
          refine hs (fun v M2 x2 r2 => Bk_v (u254_92 hK x2 ⟨(bf_o w (by omega)).1, by rw [(bf_o w (by omega)).2]; omega, ?_⟩))
          rw [Int.toNat_natCast, w1 (by omega)]
          exact ihk (q + 1) (by omega) _ (x2.set (nfa (bf_o w (by omega)).1 _)) r2
      exact cells 27 0 rfl M1 x1 r1
  have now : ∀ fk q, q + fk = 27 → ∀ M1, FX M1 → R (1 + q) M1 → Wp (d + 1) 254 21 [vR 440, vR a, vI f, vI (q : Int), vU] [] M1 K Q := by
    intro fk
    induction fk with
    | zero =>
      intro q hq M1 x1 r1
      have : q = 27 := by omega
      subst this
      exact u254_21 hK x1 ⟨fun _ => rows 16 0 rfl _ M1 x1 r1, fun h9 => absurd (by decide) h9⟩
    | succ fk ihk =>
      intro q hq M1 x1 r1
      obtain ⟨e1, e2⟩ := ad_1 (k := q) (by omega)
      refine u254_21 hK x1 ⟨fun h9 => absurd h9 (by omega), fun _ => ⟨by omega, ?_⟩⟩
      rw [Int.toNat_natCast]
      have hs := hst d (1 + q) M1 (Bk d 254 41 44 253 [vR 440, vR a, vI f, vI (q : Int), vU] [vI (q : Int), vR 888] Q) (by omega) x1 r1
      rw [e1, e2] at hs
      refine hs (fun v M2 x2 r2 => Bk_v (u254_44 hK x2 ⟨by omega, ?_⟩))
      rw [Int.toNat_natCast, w1 (by omega)]
      exact ihk (q + 1) (by omega) _ (x2.set (nfa cpy_o.1 _)) r2
  exact now 27 0 rfl _ (x2.set (nf440_36 36 (by omega))) r2
theorem g254s {n : Nat} (hK : K.1 = 923) (hX : FX M) (hn : n < 3) (k : ∀ M', FX M' → SvS (mset M 440 39 0) (908 + n) 460 M' → Q (.inl none) M' K) : Wm (d + 1) 254 [vR 440, vR (908 + n), vI 0] M K Q :=
  g254 (R := SvS (mset M 440 39 0) (908 + n)) hK hX (by omega) ⟨ms_eq, fun _ _ _ _ => rfl, fun j hj => absurd hj (by omega)⟩ (fun d t M1 Q ht x1 r1 kk => g253s hK x1 (kp_o n hn).1 (kp_o n hn).2 (by omega) r1.1 ht (fun x2 => kk _ _ x2 (r1.nx (by omega) ht))) k
theorem g254b {n : Nat} (hK : K.1 = 923) (hX : FX M) (hn : n < 3) (k : ∀ M', FX M' → SvB (mset M 440 39 0) (908 + n) 460 M' → Q (.inl none) M' K) : Wm (d + 1) 254 [vR 440, vR (908 + n), vI 1] M K Q :=
  g254 (R := SvB (mset M 440 39 0) (908 + n)) hK hX (by omega) ⟨ms_eq, fun _ _ _ _ => rfl, fun j hj => absurd hj (by omega)⟩ (fun d t M1 Q ht x1 r1 kk => g253b hK x1 (kp_o n hn).1 (kp_o n hn).2 (by omega) r1.1 ht (fun x2 => kk _ _ x2 (r1.nx (by omega) ht))) k
theorem LMo.of {a j b : Nat} {t : Mem} (hN : nSt c ≤ 6) (hc : ∀ k, k < 27 → M' a (j + k) = M b k) (h : LMr M b c t) (h26 : M b 26 = -1) : LMo M' a j c t := by
  refine ⟨?_, (hc 26 (by decide)).trans h26⟩
  obtain ⟨x, y, z⟩ := h
  refine ⟨fun p hp => ?_, (hc 24 (by decide)).trans y, (hc 25 (by decide)).trans z⟩
  obtain ⟨q0, q1, q2, q3⟩ := x p hp
  refine ⟨?_, ?_, ?_, ?_⟩
  · show M' a (j + p) = _; exact (hc _ (by omega)).trans q0
  · show M' a (j + (6 + p)) = _; exact (hc _ (by omega)).trans q1
  · show M' a (j + (12 + p)) = _; exact (hc _ (by omega)).trans q2
  · show M' a (j + (18 + p)) = _; exact (hc _ (by omega)).trans q3
theorem LMo.to {a j b : Nat} {t : Mem} (hN : nSt c ≤ 6) (hc : ∀ k, k < 27 → M' b k = M a (j + k)) (h : LMo M a j c t) : LMr M' b c t ∧ M' b 26 = -1 := by
  obtain ⟨⟨x, y, z⟩, h26⟩ := h
  refine ⟨⟨fun p hp => ?_, (hc 24 (by decide)).trans y, (hc 25 (by decide)).trans z⟩, (hc 26 (by decide)).trans h26⟩
  obtain ⟨q0, q1, q2, q3⟩ := x p hp
  exact ⟨(hc _ (by omega)).trans q0, (hc _ (by omega)).trans q1, (hc _ (by omega)).trans q2, (hc _ (by omega)).trans q3⟩
theorem m255 (hK : K.1 = 923) (hX : FX M) (hI : IV nB B c s H I Y) (h : MS M nB B fp c L s H I Y rf ms wr) (k : ∀ M', FX M' → LoM M M' → M' 440 0 = 0 → MS M' nB B fp c L s H (if I.length < 3 then I ++ [(s, H)] else I) Y rf ms wr → Q (.inl (some (vI (if I.length < 3 then (I.length : Int) + 1 else -1)))) M' K) : Wm (d + 2) 255 [vR 440] M K Q := by
  have hi := h.2.2.2.2.1
  have hb := h.2.2.2.1
  have hN := h.2.1.1.2.1.n.1.2
  have h3 := hI.2.2.2.2.1.1
  have h16 := hI.2.2.2.1.1
  refine u255_0 hK hX ?_
  rw [hi.1]
  refine ⟨fun h9 => ⟨by omega, ?_⟩, fun h9 => ?_⟩
  · rw [if_pos (by omega), if_pos (by omega)] at k
    rw [Int.toNat_natCast]
    refine g254s hK hX.t0 (by omega) (fun M1 x1 ⟨s1, s2, s3⟩ => Bk_n (u255_29 hK x1 ?_))
    have f1 : ∀ b j, b ≠ 908 + I.length → ¬ (b = 440 ∧ (j = 0 ∨ j = 39)) → M1 b j = M b j := fun b j h1 h2 => by
      rw [s2 b j h1 (by omega)]
      unfold mset; rw [if_neg (by omega), if_neg (by omega)]
    have e38 : M1 440 38 = (I.length : Int) := (f1 _ _ (by omega) (by omega)).trans hi.1
    rw [e38, w1 (by omega)]
    have fa : ∀ b j, b ≠ 908 + I.length → ¬ (b = 440 ∧ (j = 0 ∨ j = 38 ∨ j = 39)) → mset M1 440 38 ((I.length + 1 : Nat) : Int) b j = M b j := fun b j h1 h2 => by
      rw [show mset M1 440 38 ((I.length + 1 : Nat) : Int) b j = M1 b j by unfold mset; rw [if_neg (by omega)]]
      exact f1 b j h1 (by omega)
    have row : ∀ j, j < 460 → mset M1 440 38 ((I.length + 1 : Nat) : Int) (908 + I.length) j = M (adA j) (adK j) := fun j hj => by
      rw [ms_na (by omega), s3 j hj]
      have hk : adA j = 440 → adK j = 36 := fun e => by
        have := ad_rg hj
        have : j = 0 := by omega
        subst this; rfl
      unfold mset
      rw [if_neg (fun h9 => by have := hk h9.1; omega), if_neg (fun h9 => by have := hk h9.1; omega)]
    refine k _ (x1.set (nf440_36 38 (by omega))) (fun a j h9 => fa a j (by omega) (by omega)) ?_ (h.upd (fun a j h1 h2 h4 h5 h6 => fa a j (by omega) (by unfold scM at h4; omega)) hI.1 (h.2.1.1.2.2.1.er (fun k => fa _ _ (by omega) (by omega))) ((fa _ _ (by omega) (by omega)).trans h.2.1.1.2.2.2.2) h.2.1.1.2.2.2.1 ⟨(fa _ _ (by omega) (by omega)).trans hb.1, fun i hi9 => ⟨(hb.2 i hi9).1.er (fun k => fa _ _ (by omega) (by omega)), (fa _ _ (by omega) (by omega)).trans (hb.2 i hi9).2⟩⟩ ⟨?_, fun i hlt => ?_⟩ ((fa _ _ (by omega) (by omega)).trans h.2.2.2.2.2.1))
    · rw [ms_nk (by decide), s2 _ _ (by omega) (by omega), ms_nk (by decide), ms_eq]
    · rw [ms_eq]; simp
    · rcases im_snoc hlt with ⟨hi9, e9⟩ | ⟨hi9, e9⟩
      · rw [e9]
        obtain ⟨q1, q2, q3⟩ := hi.2 i hi9
        exact ⟨(fa _ _ (by omega) (by omega)).trans q1, q2.eq (fun k => fa _ _ (by omega) (by omega)), fun j hj => (q3 j hj).eq (fun k => fa _ _ (by omega) (by omega))⟩
      · rw [e9]
        subst hi9
        refine ⟨?_, ?_, fun j hj => ?_⟩
        · rw [row 0 (by decide)]; exact hb.1
        · exact LMo.of hN (fun k hk => by rw [row (1 + k) (by omega), (ad_1 hk).1, (ad_1 hk).2]) h.2.1.1.2.2.1 h.2.1.1.2.2.2.2
        · have hj9 : j < H.length := hj
          exact LMo.of hN (fun k hk => by rw [row (28 + 27 * j + k) (by omega), (ad_2 hk).1, (ad_2 hk).2]) (hb.2 j hj9).1 (hb.2 j hj9).2
  · rw [if_neg (by omega), if_neg (by omega)] at k
    exact k _ hX.t0 FrQm.t0.lo ms_eq (h.q FrQm.t0 hI)
theorem m256 (hK : K.1 = 923) (hX : FX M) (hI : IV nB B c s H I Y) (h : MS M nB B fp c L s H I Y rf ms wr) (k : ∀ M', FX M' → LoM M M' → M' 440 0 = 0 → MS M' nB B fp c L (if I = [] then s else (imL I).1) (if I = [] then H else (imL I).2) I.dropLast Y (if I = [] then rf else 0) ms wr → Q (.inl (some (vI ((I.length : Int) - 1)))) M' K) : Wm (d + 2) 256 [vR 440] M K Q := by
  have hi := h.2.2.2.2.1
  have hb := h.2.2.2.1
  have hN := h.2.1.1.2.1.n.1.2
  have h3 := hI.2.2.2.2.1
  refine u256_0 hK hX ?_
  rw [hi.1]
  refine ⟨fun h9 => ?_, fun h9 => ?_⟩
  · have hne : I ≠ [] := by rintro rfl; exact h9 rfl
    rw [if_neg hne, if_neg hne, if_neg hne] at k
    obtain ⟨n, hn⟩ : ∃ n, I.length = n + 1 := ⟨I.length - 1, by have := List.length_pos_iff.mpr hne; omega⟩
    have eI : imL I = I.getD n im0 := by unfold imL; rw [hn]; rfl
    rw [eI] at k
    have e1 : ((n + 1 : Nat) : Int) - 1 = (n : Int) := by omega
    rw [hn, e1] at k
    rw [hn, e1, w32_id (by omega), Int.toNat_natCast]
    have n3 : n < 3 := by omega
    obtain ⟨q1, q2, q3⟩ := hi.2 n (by omega)
    obtain ⟨lw1, lw2⟩ := h3.2 n (by omega)
    refine ⟨by omega, ?_⟩
    refine g254b hK (hX.t0.set (nf440_36 38 (by omega))) n3 (fun M1 x1 ⟨s1, s2, s3⟩ => Bk_n (u256_38 hK x1 ?_))
    have hk : ∀ j, j < 460 → adA j = 440 → adK j = 36 := fun j hj e => by
      have := ad_rg hj
      have : j = 0 := by omega
      subst this; rfl
    have f1 : ∀ b j, ¬ (888 ≤ b ∧ b ≤ 906) → ¬ (b = 440 ∧ (j = 0 ∨ j = 36 ∨ j = 38 ∨ j = 39)) → M1 b j = M b j := fun b j h1 h2 => by
      rw [s2 b j (by omega) (fun t ht h8 => by have := ad_rg ht; have := hk t ht; omega)]
      unfold mset; rw [if_neg (by omega), if_neg (by omega), if_neg (by omega)]
    have s3' : ∀ j, j < 460 → M1 (adA j) (adK j) = M (908 + n) j := fun j hj => by
      rw [s3 j hj, ms_na (by omega), ms_na (by omega), ms_na (by omega)]
    have e38 : M1 440 38 = (n : Int) := by
      rw [s2 _ _ (by omega) (fun t ht h8 => by have := hk t ht h8.1.symm; omega), ms_nk (by decide), ms_eq]
    have fa : ∀ b j, ¬ (888 ≤ b ∧ b ≤ 906) → ¬ (b = 440 ∧ (j = 0 ∨ (36 ≤ j ∧ j ≤ 39))) → mset M1 440 37 0 b j = M b j := fun b j h1 h2 => by
      rw [show mset M1 440 37 0 b j = M1 b j by unfold mset; rw [if_neg (by omega)]]
      exact f1 b j h1 (by omega)
    have row0 : mset M1 440 37 0 440 36 = M (908 + n) 0 := (ms_nk (by decide)).trans (s3' 0 (by decide))
    have row1 : ∀ k, k < 27 → mset M1 440 37 0 888 k = M (908 + n) (1 + k) := fun k hk9 => by
      rw [ms_na (by decide)]
      have := s3' (1 + k) (by omega)
      rw [(ad_1 hk9).1, (ad_1 hk9).2] at this; exact this
    have row2 : ∀ w k, w < 16 → k < 27 → mset M1 440 37 0 (891 + w) k = M (908 + n) (28 + 27 * w + k) := fun w k hw hk9 => by
      rw [ms_na (by omega)]
      have := s3' (28 + 27 * w + k) (by omega)
      rw [(ad_2 hk9).1, (ad_2 hk9).2] at this; exact this
    have lw16 := lw2.1
    rw [e38]
    refine k _ (x1.set (nf440_36 37 (by omega))) (fun a j h8 => fa a j (by omega) (by omega)) ?_ (h.upd (fun a j h1 h2 h4 h5 h6 => fa a j (by omega) (by unfold scM at h4; omega)) hI.1 (LMo.to hN row1 q2).1 (LMo.to hN row1 q2).2 lw1.1 ⟨row0.trans q1, fun i hi9 => LMo.to hN (fun k hk9 => row2 i k (by omega) hk9) (q3 i hi9)⟩ ⟨?_, fun i hlt => ?_⟩ ms_eq)
    · rw [ms_nk (by decide), s2 _ _ (by omega) (fun t ht h8 => by have := hk t ht h8.1.symm; omega), ms_nk (by decide), ms_nk (by decide), ms_eq]
    · rw [ms_nk (by decide), e38]; simp; omega
    · obtain ⟨hi9, e9⟩ := im_drop hlt
      rw [e9]
      obtain ⟨z1, z2, z3⟩ := hi.2 i hi9
      exact ⟨(fa _ _ (by omega) (by omega)).trans z1, z2.eq (fun k => fa _ _ (by omega) (by omega)), fun j hj => (z3 j hj).eq (fun k => fa _ _ (by omega) (by omega))⟩
  · have hn : I = [] := List.eq_nil_of_length_eq_zero (by omega)
    subst hn
    rw [if_pos rfl, if_pos rfl, if_pos rfl] at k
    exact k _ hX.t0 FrQm.t0.lo ms_eq (h.q FrQm.t0 hI)
end SOK
