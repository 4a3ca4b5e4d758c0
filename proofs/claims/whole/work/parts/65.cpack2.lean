/-! strips laid so that most is gone: the class's rows and its way back -/
section CP
variable {d : Nat} {M M' : Mem} {K : KK} {Q : RR → Mem → KK → Prop} {cm a l p : Nat} {c s : Mem} {L : LC} {T S : Nat}
theorem RowV.fr (h : RowV M c s L T p) (hf : ∀ j, M' 135 j = M 135 j) : RowV M' c s L T p := fun S h1 h2 => (hf _).trans (h S h1 h2)
theorem GoneV.fr (h : GoneV M c s L p) (hf : ∀ j, M' 137 j = M 137 j) : GoneV M' c s L p := fun x h1 => (hf _).trans (h x h1)
theorem ChV.fr (h : ChV M c s L T p) (hf : ∀ S, grp (M' 136 S) p = grp (M 136 S) p) : ChV M' c s L T p := fun S h1 h2 => (hf _).trans (h S h1 h2)
theorem pkCd_rg (hs : LW c s) (hN : nSt c ≤ 6) (hp : p < nSt c) : 0 ≤ pkCd c s L T p S ∧ pkCd c s L T p S ≤ 15 := by
  unfold pkCd
  split
  · rename_i h
    have := ((pkC_first (L := L) (T := T) (S := S) hs hN hp 13).2 h.1).2.1
    omega
  · omega
theorem g54 {Y : Int} (hK : K.1 = 923) (hX : FX M) (hcm : isO 923 cm 0 = true) (hw : CW c) (hs : LW c s) (hy : YC M cm c) (hp : p < nSt c) (hT : T.testBit p = true) (hY : Y = yA c T p) (hR : RowV M c s L T (p + 1)) (hG : GoneV M c s L p)
    (k : ∀ M', FX M' → (∀ b j, b ≠ 135 → b ≠ 136 → M' b j = M b j) → RowV M' c s L T p → ChV M' c s L T p → (∀ S q, q < 6 → q ≠ p → grp (M' 136 S) q = grp (M 136 S) q) → Q (.inl none) M' K) : Wm (d + 2) 54 [vR 134, vR cm, vI (p : Int), vI Y] M K Q := by
  have hg0 := rg0 hcm
  have yc12 := hy.2.2.1
  have yn6 := hy.2.2.2.1
  have p2 := p12 yc12
  refine u54_0 hK hX hcm ?_
  have loop : ∀ f S, S + f = 2 ^ nCe c → ∀ M1, FX M1 → (∀ b j, b ≠ 135 → b ≠ 136 → M1 b j = M b j) → (∀ S', S ≤ S' → M1 135 S' = M 135 S') → (∀ S', S' < S → (pcn 12 S' : Int) ≤ yA c T p → M1 135 S' = pkV c s L T p S' ∧ grp (M1 136 S') p = pkCd c s L T p S') → (∀ S' q, q < 6 → q ≠ p → grp (M1 136 S') q = grp (M 136 S') q) → Wp (d + 2) 54 3 [vR 134, vR cm, vI (p : Int), vI Y, vI (S : Int)] [] M1 K Q := by
    intro f
    induction f with
    | zero =>
      intro S hS M1 x1 f1 f2 w1' g1
      have e5 : M1 cm 5 = (nCe c : Int) := (f1 _ _ (by omega) (by omega)).trans hy.1
      refine u54_3 hK x1 hcm ⟨fun _ => k M1 x1 f1 (fun S' h1 h2 => (w1' S' (by omega) h2).1) (fun S' h1 h2 => (w1' S' (by omega) h2).2) g1, fun h => absurd ?_ h⟩
      rw [e5, jshl_1 (by omega)]; omega
    | succ f ih =>
      intro S hS M1 x1 f1 f2 w1' g1
      have e5 : M1 cm 5 = (nCe c : Int) := (f1 _ _ (by omega) (by omega)).trans hy.1
      have hy1 : YC M1 cm c := ⟨e5, (f1 _ _ (by omega) (by omega)).trans hy.2.1, hy.2.2.1, hy.2.2.2.1, fun q hq => ⟨(f1 _ _ (by omega) (by omega)).trans (hy.2.2.2.2 q hq).1, (hy.2.2.2.2 q hq).2⟩⟩
      refine u54_3 hK x1 hcm ⟨fun h => absurd h ?_, fun _ => ?_⟩
      · rw [e5, jshl_1 (by omega)]; omega
      refine g289 hK x1 (by omega) (Bk_v (u54_19 hK x1 hcm ⟨fun h => u54_31 hK x1 hcm ?_, fun h => ?_⟩))
      · rw [w1 (by omega)]
        refine ih (S + 1) (by omega) _ x1 f1 (fun S' h1 => f2 S' (by omega)) (fun S' h1 h2 => ?_) g1
        by_cases hSS : S' = S
        · subst hSS; omega
        · exact w1' S' (by omega) h2
      · refine g55 (L := L) (s := s) hK x1 hcm hw hs hy1 hp hT (by omega) (by omega) (fun S' h1 h2 h3 => (f2 S' h1).trans (hR S' h2 h3)) (hG.fr (fun j => f1 _ _ (by decide) (by decide))) (fun M2 x2 q1 q2 q3 => Bk_n (u54_31 hK x2 hcm ?_))
        rw [w1 (by omega)]
        have gs : ∀ q, q < 6 → grp (M2 136 S) q = if q = p then pkCd c s L T p S else grp (M1 136 S) q := fun q hq => by
          rw [q3]; exact grp_stg (by omega) hq (pkCd_rg hs yn6 hp)
        refine ih (S + 1) (by omega) _ x2 (fun b j h1 h2 => (q1 b j (fun h9 => h1 h9.1) (fun h9 => h2 h9.1)).trans (f1 b j h1 h2)) (fun S' h1 => (q1 _ _ (by omega) (by omega)).trans (f2 S' (by omega))) (fun S' h1 h2 => ?_) (fun S' q hq hqp => ?_)
        · by_cases hSS : S' = S
          · subst hSS
            refine ⟨q2, ?_⟩
            rw [gs p (by omega), if_pos rfl]
          · rw [q1 135 S' (by omega) (by omega), q1 136 S' (by omega) (by omega)]
            exact w1' S' (by omega) h2
        · by_cases hSS : S' = S
          · subst hSS
            rw [gs q hq, if_neg hqp]; exact g1 S' q hq hqp
          · rw [q1 136 S' (by omega) (by omega)]; exact g1 S' q hq hqp
  exact loop (2 ^ nCe c) 0 (Nat.zero_add _) M hX (fun _ _ _ _ => rfl) (fun _ _ => rfl) (fun S' h => absurd h (by omega)) (fun _ _ _ _ => rfl)
theorem pkS_ok (hw : CW c) (hs : LW c s) (hp : p < nSt c) (hS : S < 2 ^ nCe c) (hpc : (pcn 12 S : Int) ≤ yA c T p) : pkS c s L T p S < 2 ^ nCe c ∧ (pcn 12 (pkS c s L T p S) : Int) ≤ yA c T (p + 1) := by
  have yn6 := hw.n.1.2
  have hAle : yA c T p ≤ yA c T (p + 1) := by rw [yA_s]; have := hw.y hp; split <;> omega
  unfold pkS
  split
  · rename_i h
    obtain ⟨u, w, -⟩ := (pkC_first (L := L) (T := T) (S := S) hs yn6 hp 13).2 h.1
    have h9 : pkg c s L T p S (pkV c s L T (p + 1)) (pkC c s L T p S 13).2 ≠ -1 := by rw [u]; exact h.1
    unfold pkg at h9
    split at h9
    · rename_i h8
      exact nx_ok hw hp h8.1 hS hpc h8.2.1
    · exact absurd rfl h9
  · exact ⟨hS, by omega⟩
theorem pkF_ok (hw : CW c) (hs : LW c s) : ∀ p, p ≤ nSt c → pkF c s L T 0 0 p < 2 ^ nCe c ∧ (pcn 12 (pkF c s L T 0 0 p) : Int) ≤ yA c T p := by
  intro p
  induction p with
  | zero => intro _; exact ⟨Nat.pow_pos (by decide), by show ((pcn 12 0 : Nat) : Int) ≤ 0; decide⟩
  | succ p ih =>
    intro hp
    obtain ⟨a, b⟩ := ih (by omega)
    have := pkS_ok (L := L) hw hs (by omega) a b
    simp only [pkF]
    rw [Nat.zero_add]; exact this
theorem bit_1 {T p : Nat} (hp : p < 32) (hT : T < 2147483648) : jand (jshr (T : Int) (p : Int)) 1 = 1 ↔ T.testBit p = true := by
  rw [bit_n hp hT]; split <;> simp_all
theorem pkCd_no (hT : T.testBit p = false) : pkCd c s L T p S = 15 := by
  have e := pkC_stop (c := c) (s := s) (L := L) (S := S) (k := 0) (Or.inr hT) (by omega)
  have e0 : (pkC c s L T p S 0) = (-1, 0) := rfl
  unfold pkCd pkOn; rw [e, e0, if_neg (fun h => h.1 rfl)]
theorem g57 (hK : K.1 = 923) (hX : FX M) (hcm : isO 923 cm 0 = true) (hw : CW c) (hs : LW c s) (hy : YC M cm c) (hTl : T < 4096) (hC : ∀ i, i < nSt c → T.testBit i = true → ChV M c s L T i)
    (k : ∀ M', FX M' → (∀ b j, b ≠ 138 → M' b j = M b j) → (∀ i, i < nSt c → M' 138 i = pkX c s L T i (pkF c s L T 0 0 i)) → Q (.inl none) M' K) : Wm (d + 1) 57 [vR 134, vR cm, vI (T : Int)] M K Q := by
  have hg0 := rg0 hcm
  have yn6 := hw.n.1.2
  have yc12 := hw.n.2.1.2
  have p2 := p12 yc12
  refine u57_0 hK hX hcm ?_
  have loop : ∀ f i, i + f = nSt c → ∀ (l5 : PV) M1, FX M1 → (∀ b j, b ≠ 138 → M1 b j = M b j) → (∀ j, j < i → M1 138 j = pkX c s L T j (pkF c s L T 0 0 j)) → Wp (d + 1) 57 5 [vR 134, vR cm, vI (T : Int), vI (pkF c s L T 0 0 i : Int), vI (i : Int), l5] [] M1 K Q := by
    intro f
    induction f with
    | zero =>
      intro i hi l5 M1 x1 f1 w1'
      refine u57_5 hK x1 hcm ⟨fun _ => k M1 x1 f1 (fun j hj => w1' j (by omega)), fun h => absurd ?_ h⟩
      rw [f1 _ _ (by omega), hy.2.1]; omega
    | succ f ih =>
      intro i hi l5 M1 x1 f1 w1'
      have hy1 : YC M1 cm c := ⟨(f1 _ _ (by omega)).trans hy.1, (f1 _ _ (by omega)).trans hy.2.1, hy.2.2.1, hy.2.2.2.1, fun q hq => ⟨(f1 _ _ (by omega)).trans (hy.2.2.2.2 q hq).1, (hy.2.2.2.2 q hq).2⟩⟩
      have hiN : i < nSt c := by omega
      obtain ⟨s1, s2⟩ := pkF_ok (L := L) (T := T) hw hs i (by omega)
      have sn : pkF c s L T 0 0 (i + 1) = pkS c s L T i (pkF c s L T 0 0 i) := by simp only [pkF]; rw [Nat.zero_add]
      obtain ⟨e2, ya, yb⟩ := hy1.2.2.2.2 i hiN
      have nx : ∀ v M2 l5', FX M2 → v = pkX c s L T i (pkF c s L T 0 0 i) → (∀ b j, M2 b j = mset M1 138 i v b j) → Wp (d + 1) 57 5 [vR 134, vR cm, vI (T : Int), vI (pkF c s L T 0 0 (i + 1) : Int), vI (w32 ((i : Int) + 1)), l5'] [] M2 K Q := by
        intro v M2 l5' x2 hv hm
        rw [w1 (by omega)]
        refine ih (i + 1) (by omega) l5' M2 x2 (fun b j h => (hm b j).trans ((ms_na h).trans (f1 b j h))) (fun j hj => ?_)
        rw [hm]
        by_cases hji : j = i
        · subst hji; rw [ms_eq]; exact hv
        · rw [ms_nk hji]; exact w1' j (by omega)
      have at43 : ∀ l5' : PV, Wp (d + 1) 57 43 [vR 134, vR cm, vI (T : Int), vI (pkF c s L T 0 0 i : Int), vI (i : Int), l5'] [vI (pkCd c s L T i (pkF c s L T 0 0 i))] M1 K Q := by
        intro l5'
        by_cases hon : pkOn c s L T i (pkF c s L T 0 0 i)
        · obtain ⟨u, w, -⟩ := (pkC_first (L := L) (T := T) (S := pkF c s L T 0 0 i) hs yn6 hiN 13).2 hon.1
          have h8 : (pkC c s L T i (pkF c s L T 0 0 i) 13).2 + yN c i ≤ nCe c := by
            by_cases hq : T.testBit i = true ∧ (pkC c s L T i (pkF c s L T 0 0 i) 13).2 + yN c i ≤ nCe c ∧ pkF c s L T 0 0 i &&& rowB (pkC c s L T i (pkF c s L T 0 0 i) 13).2 (yN c i) = 0
            · exact hq.2.1
            · exfalso
              have : pkg c s L T i (pkF c s L T 0 0 i) (pkV c s L T (i + 1)) (pkC c s L T i (pkF c s L T 0 0 i) 13).2 = -1 := by unfold pkg; rw [if_neg hq]
              exact hon.1 (by omega)
          have eC : pkCd c s L T i (pkF c s L T 0 0 i) = ((pkC c s L T i (pkF c s L T 0 0 i) 13).2 : Int) := by unfold pkCd; rw [if_pos hon]
          have eX : pkX c s L T i (pkF c s L T 0 0 i) = ((pkC c s L T i (pkF c s L T 0 0 i) 13).2 : Int) := by unfold pkX; rw [if_pos hon]
          have eS : pkS c s L T i (pkF c s L T 0 0 i) = pkF c s L T 0 0 i ||| rowB (pkC c s L T i (pkF c s L T 0 0 i) 13).2 (yN c i) := by unfold pkS; rw [if_pos hon]
          have rl := rowB_lt (x := (pkC c s L T i (pkF c s L T 0 0 i) 13).2) (m := yN c i) (b := 12) (by omega)
          rw [eC]
          refine u57_43 hK x1 hcm ⟨fun _ => ?_, fun h9 => absurd h9 (by omega)⟩
          rw [Int.toNat_natCast, e2, Int.toNat_natCast, Int.toNat_natCast, jor_n (by omega) (by omega)]
          have n9 := nx _ _ (vI ((pkC c s L T i (pkF c s L T 0 0 i) 13).2 : Int)) (x1.set (a := 138) (k := i) (v := ((pkC c s L T i (pkF c s L T 0 0 i) 13).2 : Int)) (nfa pk_o.2.2.2.1 _)) eX.symm (fun _ _ => rfl)
          rw [sn, eS] at n9
          exact ⟨by omega, by omega, by omega, n9⟩
        · have eC : pkCd c s L T i (pkF c s L T 0 0 i) = 15 := by unfold pkCd; rw [if_neg hon]
          have eX : pkX c s L T i (pkF c s L T 0 0 i) = -1 := by unfold pkX; rw [if_neg hon]
          have eS : pkS c s L T i (pkF c s L T 0 0 i) = pkF c s L T 0 0 i := by unfold pkS; rw [if_neg hon]
          rw [eC]
          refine u57_43 hK x1 hcm ⟨fun h9 => absurd rfl h9, fun _ => ⟨by omega, ?_⟩⟩
          rw [Int.toNat_natCast, show (0 : Int) = ((0 : Nat) : Int) from rfl, jor_n (by omega) (by decide), Nat.or_zero]
          have n9 := nx _ _ (vI (15 : Int)) (x1.set (a := 138) (k := i) (v := (-1 : Int)) (nfa pk_o.2.2.2.1 _)) eX.symm (fun _ _ => rfl)
          rw [sn, eS] at n9
          exact n9
      refine u57_5 hK x1 hcm ⟨fun h => absurd h (by rw [hy1.2.1]; omega), fun _ => ?_⟩
      rw [bit_1 (by omega) (by omega)]
      refine ⟨fun h => ?_, fun h => ⟨by omega, ?_⟩⟩
      · have hT : T.testBit i = false := by cases hq : T.testBit i with
          | false => rfl
          | true => exact absurd hq h
        have := at43 l5
        rw [pkCd_no hT] at this
        exact this
      · have e := hC i hiN h _ s1 s2
        unfold grp at e
        rw [Int.toNat_natCast, f1 136 _ (by decide), e]
        exact at43 l5
  exact loop (nSt c) 0 (by omega) vU M hX (fun _ _ _ => rfl) (fun j hj => absurd hj (by omega))
theorem g52 (hK : K.1 = 923) (hX : FX M) (hcm : isO 923 cm 0 = true) (ha : isO 923 a 3 = true) (hd : a + 4 < 134 ∨ 138 < a) (hs : SKc M cm a c s) (hL : LWC M cm L l) (hT : T < 2 ^ nSt c)
    (k : ∀ M', FX M' → FrPk M M' → (∀ i, i < nSt c → M' 138 i = pkX c s L T i (pkF c s L T 0 0 i)) → Q (.inl (some (vI (pkV c s L T 0 0)))) M' K) : Wm (d + 4) 52 [vR 134, vR cm, vR a, vI (T : Int)] M K Q := by
  have hy := hs.yc
  have hw := hs.2.1
  have hlw := hs.2.2.2
  have yn6 := hw.n.1.2
  have yc12 := hw.n.2.1.2
  have p2 := p12 yc12
  have hg0 := rg0 hcm
  have hT6 : T < 64 := by
    have h6 : 2 ^ nSt c ≤ 2 ^ 6 := Nat.pow_le_pow_right (by decide) yn6
    have e : 2 ^ 6 = 64 := by decide
    omega
  refine u52_0 hK hX hcm ha ?_
  have rows : ∀ f p, p = f → p ≤ nSt c → ∀ M1, FX M1 → FrPk M M1 → RowV M1 c s L T p → (∀ i, p ≤ i → i < nSt c → T.testBit i = true → ChV M1 c s L T i) → Wp (d + 4) 52 33 [vR 134, vR cm, vR a, vI (T : Int), vI ((p : Int) - 1)] [] M1 K Q := by
    intro f
    induction f with
    | zero =>
      intro p hp hpN M1 x1 f1 hR hC
      subst hp
      refine u52_33 hK x1 hcm ha ⟨fun _ => ?_, fun h => absurd (by omega) h⟩
      refine g57 (d := d + 2) (L := L) (s := s) hK x1 hcm hw hlw (hy.fr hcm f1) (by omega) (fun i hi => hC i (by omega) hi) (fun M2 x2 f2 w2 => Bk_n (u52_87 hK x2 hcm ha ?_))
      have f2' : FrPk M1 M2 := fun b j h1 h2 => f2 b j (by omega)
      have e := hR 0 (Nat.pow_pos (by decide)) (by show ((pcn 12 0 : Nat) : Int) ≤ 0; decide)
      rw [f2 _ _ (by decide), e]
      exact k M2 x2 (f1.tr f2') w2
    | succ f ih =>
      intro p hp hpN M1 x1 f1 hR hC
      obtain ⟨q, rfl⟩ : ∃ q, p = q + 1 := ⟨p - 1, by omega⟩
      have eq1 : ((q + 1 : Nat) : Int) - 1 = (q : Int) := by omega
      rw [eq1]
      have hqN : q < nSt c := by omega
      have hq32 : 2 ^ q ≤ 64 := by
        have h6 : 2 ^ q ≤ 2 ^ 6 := Nat.pow_le_pow_right (by decide) (by omega)
        have e : 2 ^ 6 = 64 := by decide
        omega
      have hq0 : 0 < 2 ^ q := Nat.pow_pos (by decide)
      have nxt : ∀ M2, FX M2 → FrPk M M2 → RowV M2 c s L T q → (∀ i, q ≤ i → i < nSt c → T.testBit i = true → ChV M2 c s L T i) → Wp (d + 4) 52 75 [vR 134, vR cm, vR a, vI (T : Int), vI (q : Int)] [] M2 K Q := by
        intro M2 x2 f2 hR2 hC2
        refine u52_75 hK x2 hcm ha ?_
        rw [w32_id (z := (q : Int) + -1) (by omega), show (q : Int) + -1 = (q : Int) - 1 by omega]
        exact ih q (by omega) (by omega) M2 x2 f2 hR2 hC2
      refine u52_33 hK x1 hcm ha ⟨fun h => absurd h (by omega), fun _ => ?_⟩
      rw [bit_1 (by omega) (by omega)]
      refine ⟨fun h => ?_, fun h => ?_⟩
      · have hTf : T.testBit q = false := by cases hb : T.testBit q with
          | false => rfl
          | true => exact absurd hb h
        refine nxt M1 x1 f1 (fun S h1 h2 => ?_) (fun i h1 h2 h3 => ?_)
        · have hA : yA c T (q + 1) = yA c T q := by rw [yA_s, hTf, if_neg (by decide), Int.add_zero]
          rw [(pkV_no hlw yn6 hqN hTf).1]
          exact hR S h1 (by omega)
        · by_cases hiq : i = q
          · subst hiq; exact absurd h3 h
          · exact hC i (by omega) h2 h3
      · refine g53 (d := d) (L := L) (s := s) hK x1 hcm ha hd (hs.pk hcm ha hd f1) (hL.pk hcm f1) hqN (fun M2 x2 f2 g2 w2 => Bk_n ?_)
        have f12 := f1.tr f2
        have e1 : jand (T : Int) (w32 (jshl 1 (q : Int) - 1)) = ((T &&& (2 ^ q - 1) : Nat) : Int) := by
          rw [jshl_1 (by omega), w32_id (by omega), show ((2 ^ q : Nat) : Int) - 1 = ((2 ^ q - 1 : Nat) : Int) by omega, jand_n (by omega) (by omega)]
        have hlt : T &&& (2 ^ q - 1) < 2147483648 := Nat.lt_of_le_of_lt Nat.and_le_left (by omega)
        have sk2 := hs.pk hcm ha hd f12
        refine u52_56 hK x2 hcm ha ⟨c, T &&& (2 ^ q - 1), ⟨e1, sk2.1, hw, hlt⟩, ?_⟩
        refine g54 (d := d + 1) (L := L) (s := s) (T := T) hK x2 hcm hw hlw (hy.fr hcm f12) hqN h (yA_ok (by omega)) (hR.fr (fun j => g2 _ _ (by unfold scL; omega) (by decide))) w2 (fun M3 x3 f3 hR3 hC3 g3 => Bk_n (nxt M3 x3 (f12.tr (fun b j h1 h2 => f3 b j (by omega) (by omega))) hR3 (fun i h1 h2 h3 => ?_)))
        by_cases hiq : i = q
        · subst hiq; exact hC3
        · refine (hC i (by omega) h2 h3).fr (fun S => ?_)
          rw [g3 S i (by omega) hiq, g2 136 S (by unfold scL; omega) (by decide)]
  have loop : ∀ f i, i + f = 4096 → ∀ M1, FX M1 → FrPk M M1 → (∀ m, m < i → M1 135 m = 0) → Wp (d + 4) 52 3 [vR 134, vR cm, vR a, vI (T : Int), vI (i : Int)] [] M1 K Q := by
    intro f
    induction f with
    | zero =>
      intro i hi M1 x1 f1 w1'
      have e6 : M1 cm 6 = (nSt c : Int) := (hy.fr hcm f1).2.1
      refine u52_3 hK x1 hcm ha ⟨fun _ => ?_, fun h => absurd (by omega) h⟩
      rw [e6, w32_id (by omega)]
      refine rows (nSt c) (nSt c) rfl (Nat.le_refl _) M1 x1 f1 (fun S h1 h2 => ?_) (fun i' h1 h2 h3 => absurd h1 (by omega))
      rw [w1' S (by omega), pkV_N]
    | succ f ih =>
      intro i hi M1 x1 f1 w1'
      refine u52_3 hK x1 hcm ha ⟨fun h => absurd h (by omega), fun _ => ?_⟩
      rw [Int.toNat_natCast, w1 (by omega)]
      refine ⟨by omega, ih (i + 1) (by omega) _ (x1.set (nfa pk_o.1.1 _)) (f1.tr (FrPk.mem (by omega))) (fun m hm => ?_)⟩
      by_cases hmi : m = i
      · subst hmi; rw [ms_eq]
      · rw [ms_nk hmi]; exact w1' m (by omega)
  exact loop 4096 0 rfl M hX FrPk.rf (fun m hm => absurd hm (by omega))
end CP
