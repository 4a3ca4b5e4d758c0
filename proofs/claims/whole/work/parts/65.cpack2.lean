/-! strips laid so that most is gone: the class's rows and its way back -/
section CP
variable {d : Nat} {M M' : Mem} {K : KK} {Q : RR → Mem → KK → Prop} {cm a l p : Nat} {c s : Mem} {L : LC} {T S : Nat}
theorem RowV.fr (h : RowV M c s L T p) (hf : ∀ j, p * 4096 ≤ j → j < (p + 1) * 4096 → M' 135 j = M 135 j) : RowV M' c s L T p := fun S h1 h2 => (hf _ (by omega) (by omega)).trans (h S h1 h2)
theorem GoneV.fr (h : GoneV M c s L p) (hf : ∀ j, M' 136 j = M 136 j) : GoneV M' c s L p := fun x h1 => (hf _).trans (h x h1)
theorem g54 {flag Y : Int} (hK : K.1 = 922) (hX : FX M) (hcm : isO 922 cm 0 = true) (hw : CW c) (hs : LW c s) (hy : YC M cm c) (hp : p < nSt c) (hfl : flag = if T.testBit p = true then 1 else 0) (hY : Y = yA c T p) (hR : RowV M c s L T (p + 1)) (hG : T.testBit p = true → GoneV M c s L p)
    (k : ∀ M', FX M' → (∀ b j, ¬ (b = 135 ∧ p * 4096 ≤ j ∧ j < (p + 1) * 4096) → M' b j = M b j) → RowV M' c s L T p → Q (.inl none) M' K) : Wm (d + 2) 54 [vR 134, vR cm, vI (p : Int), vI flag, vI Y] M K Q := by
  have hg0 := rg0 hcm
  have yc12 := hy.2.2.1
  have yn6 := hy.2.2.2.1
  have p2 := p12 yc12
  refine u54_0 hK hX hcm ?_
  have loop : ∀ f S, S + f = 2 ^ nCe c → ∀ M1, FX M1 → (∀ b j, ¬ (b = 135 ∧ p * 4096 ≤ j ∧ j < (p + 1) * 4096) → M1 b j = M b j) → (∀ S', S' < S → (pcn 12 S' : Int) ≤ yA c T p → M1 135 (p * 4096 + S') = pkV c s L T p S') → Wp (d + 2) 54 3 [vR 134, vR cm, vI (p : Int), vI flag, vI Y, vI (S : Int)] [] M1 K Q := by
    intro f
    induction f with
    | zero =>
      intro S hS M1 x1 f1 w1'
      have e5 : M1 cm 5 = (nCe c : Int) := (f1 _ _ (by omega)).trans hy.1
      refine u54_3 hK x1 hcm ⟨fun _ => k M1 x1 f1 (fun S' h1 h2 => ?_), fun h => absurd ?_ h⟩
      · rcases h2 with h2 | h2
        · omega
        · exact w1' S' (by omega) h2.2
      · rw [e5, jshl_1 (by omega)]; omega
    | succ f ih =>
      intro S hS M1 x1 f1 w1'
      have e5 : M1 cm 5 = (nCe c : Int) := (f1 _ _ (by omega)).trans hy.1
      have hy1 : YC M1 cm c := ⟨e5, (f1 _ _ (by omega)).trans hy.2.1, hy.2.2.1, hy.2.2.2.1, fun q hq => ⟨(f1 _ _ (by omega)).trans (hy.2.2.2.2 q hq).1, (hy.2.2.2.2 q hq).2⟩⟩
      have hR1 : RowV M1 c s L T (p + 1) := hR.fr (fun j h1 h2 => f1 _ _ (by omega))
      refine u54_3 hK x1 hcm ⟨fun h => absurd h ?_, fun _ => ?_⟩
      · rw [e5, jshl_1 (by omega)]; omega
      have wr : ∀ v, v = pkV c s L T p S → Wp (d + 2) 54 3 [vR 134, vR cm, vI (p : Int), vI flag, vI Y, vI (w32 ((S : Int) + 1))] [] (mset M1 135 (p * 4096 + S) v) K Q := by
        intro v hv
        rw [w1 (by omega)]
        refine ih (S + 1) (by omega) _ (x1.set (nfa pk_o.1.1 _)) (fun b j h => ?_) (fun S' h1 h2 => ?_)
        · have e : mset M1 135 (p * 4096 + S) v b j = M1 b j := by
            unfold mset; rw [if_neg (fun h9 => h (by omega))]
          exact e.trans (f1 b j h)
        · by_cases hSS : S' = S
          · subst hSS; rw [ms_eq]; exact hv
          · rw [ms_nk (by omega)]; exact w1' S' (by omega) h2
      refine g289 hK x1 (by omega) (Bk_v (u54_19 hK x1 hcm ⟨fun h => ?_, fun h => ⟨fun h2 => ?_, fun h2 => ?_⟩⟩))
      · rw [w1 (by omega)]
        refine ih (S + 1) (by omega) _ x1 f1 (fun S' h1 h2 => ?_)
        by_cases hSS : S' = S
        · subst hSS; omega
        · exact w1' S' (by omega) h2
      · have hT : T.testBit p = false := by
          cases hTb : T.testBit p with
          | false => rfl
          | true => rw [hTb, if_pos rfl] at hfl; omega
        have hA : yA c T (p + 1) = yA c T p := by rw [yA_s, hT, if_neg (by decide), Int.add_zero]
        rw [ip41 (by omega), ip40 (by omega), Int.toNat_natCast, Int.toNat_natCast, hR1 S (by omega) (Or.inr ⟨by omega, by omega⟩)]
        exact ⟨by omega, by omega, wr _ (pkV_no hs yn6 hp hT).1.symm⟩
      · have hT : T.testBit p = true := by
          cases hTb : T.testBit p with
          | true => rfl
          | false => rw [hTb, if_neg (by decide)] at hfl; omega
        refine g55 hK x1 hcm hw hs hy1 hp hT (by omega) (by omega) hR1 ((hG hT).fr (fun j => f1 _ _ (by omega))) (Bk_v (u54_48 hK x1 hcm ?_))
        rw [ip40 (by omega), Int.toNat_natCast]
        exact ⟨by omega, wr _ rfl⟩
  exact loop (2 ^ nCe c) 0 (Nat.zero_add _) M hX (fun _ _ _ => rfl) (fun S' h => absurd h (by omega))
theorem pkS_ok (hw : CW c) (hs : LW c s) (hp : p < nSt c) (hS : S < 2 ^ nCe c) (hpc : (pcn 12 S : Int) ≤ yA c T p) : pkS c s L T p S < 2 ^ nCe c ∧ (pcn 12 (pkS c s L T p S) : Int) ≤ yA c T (p + 1) := by
  have yn6 := hw.n.1.2
  have hAle : yA c T p ≤ yA c T (p + 1) := by rw [yA_s]; have := hw.y hp; split <;> omega
  unfold pkS
  split
  · rename_i h
    obtain ⟨u, w, -⟩ := (pkC_first (L := L) (T := T) (S := S) hs yn6 hp 13).2 h.1
    have h9 : pkg c s L T p S (pkV c s L T (p + 1)) (pkC c s L T p S 13).2 ≠ -1 := by rw [u]; exact h.1
    unfold pkg at h9
    split at h9
    · rename_i h8
      exact nx_ok hw hp h8.1 hS hpc h8.2.1
    · exact absurd rfl h9
  · exact ⟨hS, by omega⟩
theorem pkF_ok (hw : CW c) (hs : LW c s) : ∀ p, p ≤ nSt c → pkF c s L T 0 0 p < 2 ^ nCe c ∧ (pcn 12 (pkF c s L T 0 0 p) : Int) ≤ yA c T p := by
  intro p
  induction p with
  | zero => intro _; exact ⟨Nat.pow_pos (by decide), by show ((pcn 12 0 : Nat) : Int) ≤ 0; decide⟩
  | succ p ih =>
    intro hp
    obtain ⟨a, b⟩ := ih (by omega)
    have := pkS_ok (L := L) hw hs (by omega) a b
    simp only [pkF]
    rw [Nat.zero_add]; exact this
theorem bit_1 {T p : Nat} (hp : p < 32) (hT : T < 2147483648) : jand (jshr (T : Int) (p : Int)) 1 = 1 ↔ T.testBit p = true := by
  rw [bit_n hp hT]; split <;> simp_all
theorem g57 (hK : K.1 = 922) (hX : FX M) (hcm : isO 922 cm 0 = true) (hw : CW c) (hs : LW c s) (hy : YC M cm c) (hTl : T < 4096) (hR : ∀ i, i ≤ nSt c → RowV M c s L T i) (hG : ∀ i, i < nSt c → T.testBit i = true → GoneV M c s L i)
    (k : ∀ M', FX M' → (∀ b j, b ≠ 137 → M' b j = M b j) → (∀ i, i < nSt c → M' 137 i = pkX c s L T i (pkF c s L T 0 0 i)) → Q (.inl none) M' K) : Wm (d + 2) 57 [vR 134, vR cm, vI (T : Int)] M K Q := by
  have hg0 := rg0 hcm
  have yn6 := hw.n.1.2
  have yc12 := hw.n.2.1.2
  have p2 := p12 yc12
  refine u57_0 hK hX hcm ?_
  have loop : ∀ f i, i + f = nSt c → ∀ M1, FX M1 → (∀ b j, b ≠ 137 → M1 b j = M b j) → (∀ j, j < i → M1 137 j = pkX c s L T j (pkF c s L T 0 0 j)) → Wp (d + 2) 57 5 [vR 134, vR cm, vI (T : Int), vI (pkF c s L T 0 0 i : Int), vI (i : Int)] [] M1 K Q := by
    intro f
    induction f with
    | zero =>
      intro i hi M1 x1 f1 w1'
      refine u57_5 hK x1 hcm ⟨fun _ => k M1 x1 f1 (fun j hj => w1' j (by omega)), fun h => absurd ?_ h⟩
      rw [f1 _ _ (by omega), hy.2.1]; omega
    | succ f ih =>
      intro i hi M1 x1 f1 w1'
      have hy1 : YC M1 cm c := ⟨(f1 _ _ (by omega)).trans hy.1, (f1 _ _ (by omega)).trans hy.2.1, hy.2.2.1, hy.2.2.2.1, fun q hq => ⟨(f1 _ _ (by omega)).trans (hy.2.2.2.2 q hq).1, (hy.2.2.2.2 q hq).2⟩⟩
      have hiN : i < nSt c := by omega
      obtain ⟨s1, s2⟩ := pkF_ok (L := L) (T := T) hw hs i (by omega)
      have sn : pkF c s L T 0 0 (i + 1) = pkS c s L T i (pkF c s L T 0 0 i) := by simp only [pkF]; rw [Nat.zero_add]
      obtain ⟨e2, ya, yb⟩ := hy1.2.2.2.2 i hiN
      have nx : ∀ v M2, FX M2 → v = pkX c s L T i (pkF c s L T 0 0 i) → (∀ b j, M2 b j = mset M1 137 i v b j) → Wp (d + 2) 57 5 [vR 134, vR cm, vI (T : Int), vI (pkF c s L T 0 0 (i + 1) : Int), vI (w32 ((i : Int) + 1))] [] M2 K Q := by
        intro v M2 x2 hv hm
        rw [w1 (by omega)]
        refine ih (i + 1) (by omega) M2 x2 (fun b j h => (hm b j).trans ((ms_na h).trans (f1 b j h))) (fun j hj => ?_)
        rw [hm]
        by_cases hji : j = i
        · subst hji; rw [ms_eq]; exact hv
        · rw [ms_nk hji]; exact w1' j (by omega)
      refine u57_5 hK x1 hcm ⟨fun h => absurd h (by rw [hy1.2.1]; omega), fun _ => ?_⟩
      rw [bit_1 (by omega) (by omega)]
      refine ⟨fun h => ⟨by omega, by omega, ?_⟩, fun h => ?_⟩
      · have hT : T.testBit i = false := by cases hq : T.testBit i with
          | false => rfl
          | true => exact absurd hq h
        obtain ⟨-, n2, n3⟩ := pkV_no (L := L) (S := pkF c s L T 0 0 i) hs yn6 hiN hT
        rw [show (0 : Int) = ((0 : Nat) : Int) from rfl, jor_n (by omega) (by decide), Nat.or_zero, Int.toNat_natCast]
        rw [n3] at sn
        rw [← sn]
        exact nx (-1) _ (x1.set (nfa pk_o.2.2.1 _)) n2.symm (fun _ _ => rfl)
      · refine g58 (L := L) (s := s) hK x1 hcm hw hs hy1 hiN h s1 s2 ((hR (i + 1) (by omega)).fr (fun j _ _ => f1 _ _ (by decide))) ((hR i (by omega)).fr (fun j _ _ => f1 _ _ (by decide))) ((hG i hiN h).fr (fun j => f1 _ _ (by decide))) (Bk_v (u57_38 hK x1 hcm ?_))
        rw [Int.toNat_natCast, ms_eq]
        have x2 := x1.set (a := 137) (k := i) (v := pkX c s L T i (pkF c s L T 0 0 i)) (nfa pk_o.2.2.1 _)
        refine ⟨by omega, by omega, fun h9 => ?_, fun h9 => ?_⟩
        · have hon : pkOn c s L T i (pkF c s L T 0 0 i) := by
            by_cases hq : pkOn c s L T i (pkF c s L T 0 0 i)
            · exact hq
            · exfalso; apply h9; unfold pkX; rw [if_neg hq]
          obtain ⟨u, w, -⟩ := (pkC_first (L := L) (T := T) (S := pkF c s L T 0 0 i) hs yn6 hiN 13).2 hon.1
          have h8 : (pkC c s L T i (pkF c s L T 0 0 i) 13).2 + yN c i ≤ nCe c := by
            by_cases hq : T.testBit i = true ∧ (pkC c s L T i (pkF c s L T 0 0 i) 13).2 + yN c i ≤ nCe c ∧ pkF c s L T 0 0 i &&& rowB (pkC c s L T i (pkF c s L T 0 0 i) 13).2 (yN c i) = 0
            · exact hq.2.1
            · exfalso
              have : pkg c s L T i (pkF c s L T 0 0 i) (pkV c s L T (i + 1)) (pkC c s L T i (pkF c s L T 0 0 i) 13).2 = -1 := by unfold pkg; rw [if_neg hq]
              exact hon.1 (by omega)
          have eX : pkX c s L T i (pkF c s L T 0 0 i) = ((pkC c s L T i (pkF c s L T 0 0 i) 13).2 : Int) := by unfold pkX; rw [if_pos hon]
          have eS : pkS c s L T i (pkF c s L T 0 0 i) = pkF c s L T 0 0 i ||| rowB (pkC c s L T i (pkF c s L T 0 0 i) 13).2 (yN c i) := by unfold pkS; rw [if_pos hon]
          have rl := rowB_lt (x := (pkC c s L T i (pkF c s L T 0 0 i) 13).2) (m := yN c i) (b := 12) (by omega)
          have n9 := nx _ _ x2 rfl (fun _ _ => rfl)
          rw [sn, eS] at n9
          rw [e2, eX, Int.toNat_natCast, Int.toNat_natCast, jor_n (by omega) (by omega)]
          rw [eX] at n9
          exact ⟨by omega, by omega, by omega, n9⟩
        · have hoff : ¬ pkOn c s L T i (pkF c s L T 0 0 i) := fun hq => by unfold pkX at h9; rw [if_pos hq] at h9; omega
          have eS : pkS c s L T i (pkF c s L T 0 0 i) = pkF c s L T 0 0 i := by unfold pkS; rw [if_neg hoff]
          have n9 := nx _ _ x2 rfl (fun _ _ => rfl)
          rw [sn, eS] at n9
          rw [show (0 : Int) = ((0 : Nat) : Int) from rfl, jor_n (by omega) (by decide), Nat.or_zero]
          exact n9
  have := loop (nSt c) 0 (by omega) M hX (fun _ _ _ => rfl) (fun j hj => absurd hj (by omega))
  exact this
theorem g52 (hK : K.1 = 922) (hX : FX M) (hcm : isO 922 cm 0 = true) (ha : isO 922 a 3 = true) (hd : a + 4 < 134 ∨ 137 < a) (hs : SKc M cm a c s) (hL : LWC M cm L l) (hT : T < 2 ^ nSt c)
    (k : ∀ M', FX M' → FrPk M M' → (∀ i, i < nSt c → M' 137 i = pkX c s L T i (pkF c s L T 0 0 i)) → Q (.inl (some (vI (pkV c s L T 0 0)))) M' K) : Wm (d + 4) 52 [vR 134, vR cm, vR a, vI (T : Int)] M K Q := by
  have hy := hs.yc
  have hw := hs.2.1
  have hlw := hs.2.2.2
  have yn6 := hw.n.1.2
  have hg0 := rg0 hcm
  have hT6 : T < 64 := by
    have h6 : 2 ^ nSt c ≤ 2 ^ 6 := Nat.pow_le_pow_right (by decide) yn6
    have e : 2 ^ 6 = 64 := by decide
    omega
  refine u52_0 hK hX hcm ha ?_
  have rows : ∀ f p, p = f → p ≤ nSt c → ∀ (v : PV) M1, FX M1 → FrPk M M1 → (∀ i, p ≤ i → i ≤ nSt c → RowV M1 c s L T i) → (∀ i, p ≤ i → i < nSt c → T.testBit i = true → GoneV M1 c s L i) → Wp (d + 4) 52 42 [vR 134, vR cm, vR a, vI (T : Int), vI ((p : Int) - 1), v] [] M1 K Q := by
    intro f
    induction f with
    | zero =>
      intro p hp hpN v M1 x1 f1 hR hG
      subst hp
      refine u52_42 hK x1 hcm ha ⟨fun _ => ?_, fun h => absurd (by omega) h⟩
      refine g57 (d := d + 1) (L := L) (s := s) hK x1 hcm hw hlw (hy.fr hcm f1) (by omega) (fun i hi => hR i (by omega) hi) (fun i hi => hG i (by omega) hi) (fun M2 x2 f2 w2 => Bk_n (u52_110 hK x2 hcm ha ?_))
      have f2' : FrPk M1 M2 := fun b j h1 h2 => f2 b j (by omega)
      have e := (hR 0 (by omega) (by omega)) 0 (by omega) (by
        by_cases h0 : nSt c = 0
        · exact Or.inl h0.symm
        · exact Or.inr ⟨Nat.pow_pos (by decide), by show ((pcn 12 0 : Nat) : Int) ≤ 0; decide⟩)
      rw [show 0 * 4096 + 0 = 0 from rfl] at e
      rw [f2 _ _ (by decide), e]
      exact k M2 x2 (f1.tr f2') w2
    | succ f ih =>
      intro p hp hpN v M1 x1 f1 hR hG
      obtain ⟨q, rfl⟩ : ∃ q, p = q + 1 := ⟨p - 1, by omega⟩
      have eq1 : ((q + 1 : Nat) : Int) - 1 = (q : Int) := by omega
      rw [eq1]
      have hqN : q < nSt c := by omega
      have hq32 : 2 ^ q ≤ 64 := by
        have h6 : 2 ^ q ≤ 2 ^ 6 := Nat.pow_le_pow_right (by decide) (by omega)
        have e : 2 ^ 6 = 64 := by decide
        omega
      have hq0 : 0 < 2 ^ q := Nat.pow_pos (by decide)
      have fill : ∀ (flag : Int) M2, flag = (if T.testBit q = true then 1 else 0) → FX M2 → FrPk M1 M2 → (∀ b j, ¬ scL b → b ≠ 136 → M2 b j = M1 b j) → (∀ i, q + 1 ≤ i → i < nSt c → T.testBit i = true → GoneV M2 c s L i) → (T.testBit q = true → GoneV M2 c s L q) → Wp (d + 4) 52 77 [vR 134, vR cm, vR a, vI (T : Int), vI (q : Int), vI flag] [] M2 K Q := by
        intro flag M2 hfl x2 f2 g2 hG2 hGq
        have f12 := f1.tr f2
        have e1 : jand (T : Int) (w32 (jshl 1 (q : Int) - 1)) = ((T &&& (2 ^ q - 1) : Nat) : Int) := by
          rw [jshl_1 (by omega), w32_id (by omega), show ((2 ^ q : Nat) : Int) - 1 = ((2 ^ q - 1 : Nat) : Int) by omega, jand_n (by omega) (by omega)]
        have hlt : T &&& (2 ^ q - 1) < 2147483648 := Nat.lt_of_le_of_lt Nat.and_le_left (by omega)
        have sk2 := hs.pk hcm ha hd f12
        refine u52_77 hK x2 hcm ha ⟨c, T &&& (2 ^ q - 1), ⟨e1, sk2.1, hw, hlt⟩, ?_⟩
        refine g54 (d := d + 1) (L := L) (s := s) (T := T) hK x2 hcm hw hlw (hy.fr hcm f12) hqN hfl (yA_ok (by omega)) ((hR (q + 1) (by omega) (by omega)).fr (fun j _ _ => g2 _ _ (by unfold scL; omega) (by decide))) hGq (fun M3 x3 f3 hR3 => Bk_n (u52_98 hK x3 hcm ha ?_))
        have f3' : FrPk M2 M3 := fun b j h1 h2 => f3 b j (by omega)
        rw [w32_id (z := (q : Int) + -1) (by omega), show (q : Int) + -1 = (q : Int) - 1 by omega]
        refine ih q (by omega) (by omega) _ M3 x3 (f12.tr f3') (fun i h1 h2 => ?_) (fun i h1 h2 h3 => ?_)
        · by_cases hiq : i = q
          · subst hiq; exact hR3
          · exact ((hR i (by omega) h2).fr (fun j _ _ => g2 _ _ (by unfold scL; omega) (by decide))).fr (fun j h4 h5 => f3 _ _ (by omega))
        · by_cases hiq : i = q
          · subst hiq; exact (hGq h3).fr (fun j => f3 _ _ (by omega))
          · exact (hG2 i (by omega) h2 h3).fr (fun j => f3 _ _ (by omega))
      refine u52_42 hK x1 hcm ha ⟨fun h => absurd h (by omega), fun _ => ?_⟩
      rw [bit_1 (by omega) (by omega)]
      refine ⟨fun h => ?_, fun h => ?_⟩
      · exact fill 0 M1 (by rw [if_neg h]) x1 FrPk.rf (fun _ _ _ _ => rfl) (fun i h1 h2 h3 => hG i (by omega) h2 h3) (fun h9 => absurd h9 h)
      · refine g53 (d := d) (L := L) (s := s) hK x1 hcm ha hd (hs.pk hcm ha hd f1) (hL.pk hcm f1) hqN (fun M2 x2 f2 g2 w2 => Bk_n ?_)
        refine fill 1 M2 (by rw [if_pos h]) x2 f2 (fun b j h1 h2 => g2 b j h1 (fun h9 => h2 h9.1)) (fun i h1 h2 h3 => ?_) (fun _ => w2)
        intro x hx
        have hyi := (hy.2.2.2.2 i h2).2.1
        have := hy.2.2.1
        exact (g2 _ _ (by unfold scL; omega) (by omega)).trans (hG i h1 h2 h3 x hx)
  have loop : ∀ f i, i + f = 4096 → ∀ M1, FX M1 → FrPk M M1 → (∀ m, m < i → M1 135 (nSt c * 4096 + m) = 0) → Wp (d + 4) 52 3 [vR 134, vR cm, vR a, vI (T : Int), vI (i : Int), vU] [] M1 K Q := by
    intro f
    induction f with
    | zero =>
      intro i hi M1 x1 f1 w1'
      have e6 : M1 cm 6 = (nSt c : Int) := (hy.fr hcm f1).2.1
      refine u52_3 hK x1 hcm ha ⟨fun _ => ?_, fun h => absurd (by omega) h⟩
      rw [e6, w32_id (by omega)]
      refine rows (nSt c) (nSt c) rfl (Nat.le_refl _) vU M1 x1 f1 (fun i' h1 h2 => ?_) (fun i' h1 h2 h3 => absurd h1 (by omega))
      have : i' = nSt c := by omega
      subst this
      intro S h3 h4
      rw [w1' S (by omega), pkV_N]
    | succ f ih =>
      intro i hi M1 x1 f1 w1'
      have e6 : M1 cm 6 = (nSt c : Int) := (hy.fr hcm f1).2.1
      have e : w32 (w32 (M1 cm 6 * 4096) + (i : Int)) = ((nSt c * 4096 + i : Nat) : Int) := by
        rw [e6, w32_id (z := (nSt c : Int) * 4096) (by omega), w32_id (by omega)]; omega
      refine u52_3 hK x1 hcm ha ⟨fun h => absurd h (by omega), fun _ => ?_⟩
      rw [e, Int.toNat_natCast, w1 (by omega)]
      refine ⟨by omega, ih (i + 1) (by omega) _ (x1.set (nfa pk_o.1.1 _)) (f1.tr (FrPk.mem (by omega))) (fun m hm => ?_)⟩
      by_cases hmi : m = i
      · subst hmi; rw [ms_eq]
      · rw [ms_nk (by omega)]; exact w1' m (by omega)
  exact loop 4096 0 rfl M hX FrPk.rf (fun m hm => absurd hm (by omega))
end CP
