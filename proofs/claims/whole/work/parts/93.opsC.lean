theorem u268_0 {d : Nat} {l3 : Nat} {l1 : Int} {l2 : Int} {M : Mem} {K : KK} {Q : RR → Mem → KK → Prop} (hK : K.1 = 923) (hX : FX M)  (h : Wm d 110 [vR 32, vI l1, vI l2] M K (Bk d 268 5 8 110 [vR 32, vI l1, vI l2, vR l3, vU] [vI (0 : Int), vR l3] Q)) : Wp (d + 1) 268 0 [vR 32, vI l1, vI l2, vR l3, vU] [] M K Q := by
  refine r_aload_n c268_0 rfl ?_
  refine r_iconst c268_1 ?_
  refine r_aload_n c268_2 rfl ?_
  refine r_iload_n c268_3 rfl ?_
  refine r_iload_n c268_4 rfl ?_
  exact r_call c268_5 rfl rfl (Nat.le_of_ble_eq_true rfl) (okc_r rfl rfl (oK hK o32)) h
theorem u268_8 {d : Nat} {l3 : Nat} {l1 : Int} {l2 : Int} {t1 : Int} {t2 : Int} {M : Mem} {K : KK} {Q : RR → Mem → KK → Prop} (hK : K.1 = 923) (hX : FX M)  (h : (t2 = (0 : Int) → isO 923 l3 22 = true ∧ (0 ≤ t1 ∧ t1 < (ln l3 : Int)) ∧ Q (.inl (some (vI (0 : Int)))) (mset M l3 (Int.toNat t1) (0 : Int)) K) ∧ (¬ (t2 = (0 : Int)) → isO 923 l3 22 = true ∧ (0 ≤ t1 ∧ t1 < (ln l3 : Int)) ∧ Q (.inl (some (vI (0 : Int)))) (mset M l3 (Int.toNat t1) (1 : Int)) K)) : Wp (d + 1) 268 8 [vR 32, vI l1, vI l2, vR l3, vU] [vI t2, vI t1, vR l3] M K Q := by
  refine r_ifP (P := t2 = (0 : Int)) c268_8 rfl (fun hc1 => ?_) (fun hc1 => ?_)
  · replace h := h.1 hc1
    refine r_lconst c268_15 ?_
    obtain ⟨o2, h⟩ := h
    obtain ⟨s3, h⟩ := h
    refine r_las c268_16 (oK hK o2) s3 ?_
    have x4 := FX.set (v := (0 : Int)) (a := l3) (k := (Int.toNat t1)) hX (nfl o2 _)
    refine r_goto c268_17 ?_
    refine r_iconst c268_24 ?_
    exact r_iret c268_25 (Or.inl rfl) h
  · replace h := h.2 hc1
    refine r_lconst c268_11 ?_
    refine r_goto c268_12 ?_
    obtain ⟨o5, h⟩ := h
    obtain ⟨s6, h⟩ := h
    refine r_las c268_16 (oK hK o5) s6 ?_
    have x7 := FX.set (v := (1 : Int)) (a := l3) (k := (Int.toNat t1)) hX (nfl o5 _)
    refine r_goto c268_17 ?_
    refine r_iconst c268_24 ?_
    exact r_iret c268_25 (Or.inl rfl) h
theorem u268_20 {d : Nat} {l3 : Nat} {l1 : Int} {l2 : Int} {M : Mem} {K : KK} {Q : RR → Mem → KK → Prop} (hK : K.1 = 923) (hX : FX M)  (h : Q (.inl (some (vI (1 : Int)))) M K) : Wp (d + 1) 268 20 [vR 32, vI l1, vI l2, vR l3, vU] [vU] M K Q := by
  refine r_ustore c268_20 (Nat.le_of_ble_eq_true rfl) ?_
  refine r_iconst c268_22 ?_
  exact r_iret c268_23 (Or.inl rfl) h
/-! operations that change the state; what a state keeps -/
section IVs
variable {nB : Nat} {B : BY} {c : Mem} {s s' : Mem} {H : List Mem} {I : List IMG} {Y : LC} {L : LC}
theorem IV.z {B' : BY} (h : IV nB B c s H I Y) : IV 0 B' c s H I Y := ⟨by omega, fun i hi => absurd hi (by omega), h.2.2⟩
theorem IV.feed {a : Nat → Int} (h : IV nB B c s H I Y) : IV (if nB + 20 ≤ 600 then nB + 20 else nB) (if nB + 20 ≤ 600 then fdB B nB a else B) c s H I Y := by
  split
  · rename_i h6
    refine ⟨h6, fun i hi => ?_, h.2.2⟩
    unfold fdB
    split
    · rename_i h7; exact h.2.1 i h7
    · exact by8_rg
  · exact h
theorem IV.undo (h : IV nB B c s H I Y) : IV nB B c (unS s H) H.dropLast I Y := by
  obtain ⟨a, b, e, f, g⟩ := h
  refine ⟨a, b, ?_, f.drop, g⟩
  unfold unS
  split
  · exact e
  · rename_i hne; exact f.last hne
theorem IV.img (h : IV nB B c s H I Y) : IV nB B c s H (if I.length < 3 then I ++ [(s, H)] else I) Y := by
  split
  · rename_i h3
    obtain ⟨a, b, e, f, ⟨g1, g2⟩, g3⟩ := h
    refine ⟨a, b, e, f, ⟨by simp; omega, fun i hi => ?_⟩, g3⟩
    by_cases hil : i < I.length
    · have e9 : (I ++ [(s, H)]).getD i im0 = I.getD i im0 := by simp [List.getD, List.getElem?_append_left hil]
      rw [e9]; exact g2 i hil
    · have hie : i = I.length := by simp at hi; omega
      subst hie
      have e9 : (I ++ [(s, H)]).getD I.length im0 = (s, H) := by simp
      rw [e9]; exact ⟨e, f⟩
  · exact h
theorem IV.res (h : IV nB B c s H I Y) : IV nB B c (if I = [] then s else (imL I).1) (if I = [] then H else (imL I).2) I.dropLast Y := by
  obtain ⟨a, b, e, f, ⟨g1, g2⟩, g3⟩ := h
  by_cases hne : I = []
  · rw [if_pos hne, if_pos hne, hne]
    rw [hne] at g1 g2
    exact ⟨a, b, e, f, ⟨g1, g2⟩, g3⟩
  · rw [if_neg hne, if_neg hne]
    have hl := List.length_pos_iff.mpr hne
    obtain ⟨q1, q2⟩ := g2 (I.length - 1) (by omega)
    refine ⟨a, b, q1, q2, ⟨by simp; omega, fun i hi => ?_⟩, g3⟩
    simp at hi
    have e9 : I.dropLast.getD i im0 = I.getD i im0 := by simp [List.getD, List.getElem?_dropLast, hi, List.getElem?_eq_getElem (show i < I.length by omega)]
    rw [e9]; exact g2 i (by omega)
theorem IV.com {c' : Mem} (hw : CW c') : IV 0 B c' (begS c') [] [] [] := by
  refine ⟨by omega, fun i hi => absurd hi (by omega), ⟨begS_w hw, ?_⟩, ⟨by simp, fun i hi => absurd hi (by simp)⟩, ⟨by simp, fun i hi => absurd hi (by simp)⟩, fun x hx => absurd hx (by simp), by simp⟩
  simp [begS]
theorem stpS_d {k a b : Int} (h : s 4 0 ≤ 500) (he : stpS c L s k a b = some s') : s' 4 0 ≤ 500 := by
  unfold stpS stpR at he
  split at he
  · unfold layS at he
    split at he
    · cases he; rw [ms_na (by decide)]; exact h
    · cases he
  · split at he
    · unfold foldS at he
      split at he
      · cases he
      · cases he; rw [ms_na (by decide), ms_na (by decide), ms_na (by decide)]; exact h
    · split at he
      · unfold wetS at he
        split at he
        · cases he; rw [ms_na (by decide)]; exact h
        · cases he
      · split at he
        · unfold milkS at he
          split at he
          · cases he; rw [ms_nk (by decide), ms_na (by decide)]; exact h
          · cases he
        · split at he
          · split at he
            · cases he
            · cases he
              unfold digS
              split
              · exact h
              · rw [ms_na (by decide)]; exact h
          · split at he
            · rename_i h5
              cases he
              have e9 : ∀ r, dayS c L s r 4 0 = s 4 0 + 1 := fun r => by simp [dayS]
              rw [e9]; omega
            · cases he
variable {P : PG}
theorem doW_d {i : Nat} {w : WK} (h : w.1 4 0 ≤ 500) : (doW c L P i w).1 4 0 ≤ 500 := by
  unfold doW
  cases hs : stpS c L w.1 (P.2 i 0) (P.2 i 1) (P.2 i 2) with
  | none => exact h
  | some s' => exact stpS_d h hs
theorem runL_d {AG : Nat → WK → WK} (hA : ∀ i (w : WK), w.1 4 0 ≤ 500 → (AG i w).1 4 0 ≤ 500) {to : Nat} : ∀ f i (w : WK), w.1 4 0 ≤ 500 → (runL c L P AG to f i w).1 4 0 ≤ 500 := by
  intro f
  induction f with
  | zero => intro i w h; exact h
  | succ f ih =>
    intro i w h
    simp only [runL]
    split
    · exact h
    · split
      · exact ih _ _ (hA _ _ h)
      · exact ih _ _ (doW_d h)
theorem runG_d {R : WK → WK} (hR : ∀ w : WK, w.1 4 0 ≤ 500 → (R w).1 4 0 ≤ 500) : ∀ f (w : WK), w.1 4 0 ≤ 500 → (runG R f w).1 4 0 ≤ 500 := by
  intro f
  induction f with
  | zero => intro w h; exact h
  | succ f ih =>
    intro w h
    simp only [runG]
    split
    · exact h
    · exact ih _ (hR _ h)
theorem runN_d : ∀ r i to (w : WK), w.1 4 0 ≤ 500 → (runN c L P r i to w).1 4 0 ≤ 500 := by
  intro r
  induction r with
  | zero => intro i to w h; exact runL_d (fun _ _ h => h) 150 i w h
  | succ r ih => intro i to w h; exact runL_d (fun j w h => runG_d (fun w h => ih _ _ w h) _ w h) 150 i w h
theorem IV.wrk (h : IV nB B c s H I Y) (hl : H.length < 16) (hw : LW c (runP c L P s).1) : IV 0 B c (runP c L P s).1 (H ++ [s]) I Y := by
  obtain ⟨a, b, e, ⟨f1, f2⟩, g⟩ := h
  refine ⟨by omega, fun i hi => absurd hi (by omega), ⟨hw, runN_d 6 0 P.1 (s, 0, 0, 0) e.2⟩, ⟨by simp; omega, fun i hi => ?_⟩, g⟩
  by_cases hil : i < H.length
  · have e9 : (H ++ [s]).getD i c00 = H.getD i c00 := by simp [List.getD, List.getElem?_append_left hil]
    rw [e9]; exact f2 i hil
  · have hie : i = H.length := by simp at hi; omega
    subst hie
    have e9 : (H ++ [s]).getD H.length c00 = s := by simp
    rw [e9]; exact e
theorem IV.say {B' : BY} {n : Nat} {nD : Int} (h : IV nB B c s H I Y) (hp : ∀ p, (pSay B' n nD).1 = .inl p → SW (pSay B' n nD).2 ∧ (pSay B' n nD).2.length ≤ 8) : IV 0 B' c s H I (sayL B' n nD Y) := by
  obtain ⟨a, b, e, f, g, g2⟩ := h
  refine ⟨by omega, fun i hi => absurd hi (by omega), e, f, g, ?_⟩
  unfold sayL
  cases hq : (pSay B' n nD).1 with
  | inl p => exact hp p hq
  | inr _ => exact g2
end IVs
section LU
variable {d i : Nat} {M M' M1 M2 M3 : Mem} {K : KK} {Q : RR → Mem → KK → Prop} {nB nB' : Nat} {B B' : BY} {fp fp' : Int} {c c' : Mem} {L L' : LC} {s s' : Mem} {H H' : List Mem} {I I' : List IMG} {Y Y' : LC} {rf ms wr rf' ms' wr' : Int} {D m pc : Nat} {ls st : List PV}
theorem RZ.u (hI' : IV nB' B' c' s' H' I' Y') (c1 : CS M1 nB' B' fp' c' L' s' H' I' Y' rf' ms' wr') (f1 : HiC M M1) (f3 : LoM M1 M3) (m3 : MS M3 nB' B' fp' c' L' s' H' I' Y' rf' ms' wr') : RZ M3 ∧ ScR M M3 :=
  ⟨⟨nB', B', fp', c', L', s', H', I', Y', rf', ms', wr', hI', c1.lo f3 hI'.2.2.2.2.1.1, m3⟩, f1.sc.tr f3.sc⟩
theorem gu {v : Int} (hK : K.1 = 923) (x1 : FX M1) (f1 : HiC M M1) (hI : IV nB B c s H I Y) (hm : MS M nB B fp c L s H I Y rf ms wr) (c1 : CS M1 nB' B' fp' c' L' s' H' I' Y' rf' ms' wr') (nx : Nx d Q M K i) (k : ∀ M2 K2, K2.1 = 923 → FX M2 → ScR M M2 → MS M2 nB B fp c L s H I Y rf ms wr → Nx2 d Q M K2 i → (∀ M3, IV nB' B' c' s' H' I' Y' → LoM M2 M3 → MS M3 nB' B' fp' c' L' s' H' I' Y' rf' ms' wr' → (RZ M3 ∧ ScR M M3) ∧ M3 922 0 = v) → Wp D m pc ls st M2 K2 Q) : Wp D m pc ls st (mset M1 922 (Int.toNat 0) v) K Q :=
  k (mset M1 922 0 v) K hK x1.out (out_sc f1) ((hm.hi f1 hI).out hI) (fun M3 l5 l6 x3 r => nx.k hK x3 r l5 l6) (fun M3 hI' f3 m3 => ⟨⟨⟨nB', B', fp', c', L', s', H', I', Y', rf', ms', wr', hI', (c1.out hI').lo f3 hI'.2.2.2.2.1.1, m3⟩, (out_sc f1).tr f3.sc⟩, (f3 _ _ (Or.inr (by decide))).trans ms_eq⟩)
end LU
section OPC
variable {d i : Nat} {M : Mem} {K : KK} {Q : RR → Mem → KK → Prop} {l5 l6 : PV}
theorem op_208 (hK : K.1 = 923) (hX : FX M) (hR : RZ M) (hi : InR M i) (nx : Nx d Q M K i) : Wp (d + 101) 288 208 [vR 31, vR 32, vR 440, vR 922, vI (i : Int), l5, l6, vU] [] M K Q := by
  obtain ⟨nB, B, fp, c, L, s, H, I, Y, rf, ms, wr, hI, hc, hm⟩ := hR
  refine u288_208 (l0 := 31) hK hX ⟨hi.r 1 (by decide), hi.r 2 (by decide), hi.r 3 (by decide), hi.r 4 (by decide), hi.r 5 (by decide), o_all.1, c98 hK hX hI hc (fun M1 x1 f1 c1 => Bk_v ?_)⟩
  have sc1 := f1.sc
  refine u288_242 (l0 := 31) hK x1 ⟨(hi.fr sc1).r 1 (by decide), (hi.fr sc1).r 2 (by decide), (hi.fr sc1).r 3 (by decide), (hi.fr sc1).r 4 (by decide), (hi.fr sc1).r 5 (by decide), o_all.2.1, ?_⟩
  rw [sc1 31 _ (by decide), sc1 31 _ (by decide), sc1 31 _ (by decide), sc1 31 _ (by decide), sc1 31 _ (by decide)]
  exact m157 hK x1 hI (hm.hi f1 hI) (fun M3 x3 f3 z3 m3 => Bk_v (u288_276 (l0 := 31) hK x3 ⟨fun _ => nx.k hK x3 (RZ.u hI.feed c1 f1 f3 m3) _ _, fun h9 => absurd rfl h9⟩))
theorem op_505 (hK : K.1 = 923) (hX : FX M) (hR : RZ M) (nx : Nx d Q M K i) : Wp (d + 101) 288 505 [vR 31, vR 32, vR 440, vR 922, vI (i : Int), l5, l6, vU] [] M K Q := by
  obtain ⟨nB, B, fp, c, L, s, H, I, Y, rf, ms, wr, hI, hc, hm⟩ := hR
  refine u288_505 (l0 := 31) hK hX ⟨o_all.1, c103 hK hX hc (Bk_v ?_)⟩
  exact u288_509 (l0 := 31) hK hX ⟨o_all.2.1, m192 hK hX hI hm (fun M3 x3 f3 z3 m3 => Bk_v (u288_513 (l0 := 31) hK x3 ⟨fun _ => nx.k hK x3 (RZ.u hI hc (fun _ _ _ => rfl) f3 m3) _ _, fun h9 => absurd rfl h9⟩))⟩
theorem op_518 (hK : K.1 = 923) (hX : FX M) (hR : RZ M) (nx : Nx d Q M K i) : Wp (d + 101) 288 518 [vR 31, vR 32, vR 440, vR 922, vI (i : Int), l5, l6, vU] [] M K Q := by
  obtain ⟨nB, B, fp, c, L, s, H, I, Y, rf, ms, wr, hI, hc, hm⟩ := hR
  refine u288_518 (l0 := 31) hK hX ⟨o_all.1, c104 hK hX hI hc (fun M1 x1 f1 c1 => Bk_v ?_)⟩
  exact u288_522 (l0 := 31) hK x1 ⟨o_all.2.1, m203 hK x1 hI (hm.hi f1 hI) (fun M3 x3 f3 z3 m3 => Bk_v (u288_526 (l0 := 31) hK x3 ⟨fun _ => nx.k hK x3 (RZ.u hI.undo c1 f1 f3 m3) _ _, fun h9 => absurd rfl h9⟩))⟩
theorem op_2369 (hK : K.1 = 923) (hX : FX M) (hR : RZ M) (nx : Nx d Q M K i) : Wp (d + 101) 288 2369 [vR 31, vR 32, vR 440, vR 922, vI (i : Int), l5, l6, vU] [] M K Q := by
  obtain ⟨nB, B, fp, c, L, s, H, I, Y, rf, ms, wr, hI, hc, hm⟩ := hR
  refine u288_2369 (l0 := 31) hK hX ⟨o_all.1, c132 hK hX hI hc (fun M1 x1 f1 c1 => Bk_v ?_)⟩
  exact u288_2373 (l0 := 31) hK x1 ⟨o_all.2.1, m255 hK x1 hI (hm.hi f1 hI) (fun M3 x3 f3 z3 m3 => Bk_v (u288_2377 (l0 := 31) hK x3 ⟨fun _ => nx.k hK x3 (RZ.u hI.img c1 f1 f3 m3) _ _, fun h9 => absurd rfl h9⟩))⟩
theorem op_2382 (hK : K.1 = 923) (hX : FX M) (hR : RZ M) (nx : Nx d Q M K i) : Wp (d + 101) 288 2382 [vR 31, vR 32, vR 440, vR 922, vI (i : Int), l5, l6, vU] [] M K Q := by
  obtain ⟨nB, B, fp, c, L, s, H, I, Y, rf, ms, wr, hI, hc, hm⟩ := hR
  refine u288_2382 (l0 := 31) hK hX ⟨o_all.1, c133 hK hX hI hc (fun M1 x1 f1 c1 => Bk_v ?_)⟩
  exact u288_2386 (l0 := 31) hK x1 ⟨o_all.2.1, m256 hK x1 hI (hm.hi f1 hI) (fun M3 x3 f3 z3 m3 => Bk_v (u288_2390 (l0 := 31) hK x3 ⟨fun _ => nx.k hK x3 (RZ.u hI.res c1 f1 f3 m3) _ _, fun h9 => absurd rfl h9⟩))⟩
theorem op_2395 (hK : K.1 = 923) (hX : FX M) (hR : RZ M) (hi : InR M i) (nx : Nx d Q M K i) : Wp (d + 101) 288 2395 [vR 31, vR 32, vR 440, vR 922, vI (i : Int), l5, l6, vU] [] M K Q := by
  obtain ⟨nB, B, fp, c, L, s, H, I, Y, rf, ms, wr, hI, hc, hm⟩ := hR
  refine u288_2395 (l0 := 31) hK hX ⟨hi.r 1 (by decide), o_all.1, c134 hK hX hc (Bk_v ?_)⟩
  exact u288_2405 (l0 := 31) hK hX ⟨hi.r 1 (by decide), o_all.2.1, m257 hK hX hI hm (fun M3 x3 f3 z3 m3 => Bk_v (u288_2415 (l0 := 31) hK x3 ⟨fun _ => nx.k hK x3 (RZ.u hI hc (fun _ _ _ => rfl) f3 m3) _ _, fun h9 => absurd rfl h9⟩))⟩
theorem op_2420 (hK : K.1 = 923) (hX : FX M) (hR : RZ M) (hi : InR M i) (nx : Nx d Q M K i) : Wp (d + 101) 288 2420 [vR 31, vR 32, vR 440, vR 922, vI (i : Int), l5, l6, vU] [] M K Q := by
  obtain ⟨nB, B, fp, c, L, s, H, I, Y, rf, ms, wr, hI, hc, hm⟩ := hR
  refine u288_2420 (l0 := 31) hK hX ⟨hi.r 1 (by decide), o_all.1, c135 hK hX hc (Bk_v ?_)⟩
  exact u288_2430 (l0 := 31) hK hX ⟨hi.r 1 (by decide), o_all.2.1, m258 hK hX hI hm (fun M3 x3 f3 z3 m3 => Bk_v (u288_2440 (l0 := 31) hK x3 ⟨fun _ => nx.k hK x3 (RZ.u hI hc (fun _ _ _ => rfl) f3 m3) _ _, fun h9 => absurd rfl h9⟩))⟩
theorem op_1611 (hK : K.1 = 923) (hX : FX M) (hR : RZ M) (nx : Nx d Q M K i) : Wp (d + 101) 288 1611 [vR 31, vR 32, vR 440, vR 922, vI (i : Int), l5, l6, vU] [] M K Q := by
  obtain ⟨nB, B, fp, c, L, s, H, I, Y, rf, ms, wr, hI, hc, hm⟩ := hR
  refine u288_1611 (l0 := 31) hK hX ⟨o_all.1, c121 hK hX hc.gc ⟨fun h1 => absurd trivial h1, fun _ h2 => absurd trivial h2, fun _ _ M1 x1 f1 => Bk_v ?_⟩⟩
  exact u288_1615 (l0 := 31) hK x1 ⟨o_all.2.1, m236 hK x1 (hm.hi f1.hi hI).gm ⟨fun h1 => absurd trivial h1, fun _ h2 => absurd trivial h2, fun _ _ M3 x3 f3 z3 => Bk_v (u288_1619 (l0 := 31) hK x3 ⟨fun _ => nx.k hK x3 (RZ.k0 hI hc hm f1 f3) _ _, fun h9 => absurd rfl h9⟩)⟩⟩
theorem op_2120 (hK : K.1 = 923) (hX : FX M) (hR : RZ M) (nx : Nx d Q M K i) : Wp (d + 101) 288 2120 [vR 31, vR 32, vR 440, vR 922, vI (i : Int), l5, l6, vU] [] M K Q := by
  obtain ⟨nB, B, fp, c, L, s, H, I, Y, rf, ms, wr, hI, hc, hm⟩ := hR
  refine u288_2120 (l0 := 31) hK hX ⟨o_all.1, c129 hK hX hc.gc ⟨fun h1 => absurd trivial h1, fun _ h2 => absurd trivial h2, fun _ _ M1 x1 f1 => Bk_v ?_⟩⟩
  exact u288_2124 (l0 := 31) hK x1 ⟨o_all.2.1, m245 hK x1 (hm.hi f1.hi hI).gm ⟨fun h1 => absurd trivial h1, fun _ h2 => absurd trivial h2, fun _ _ M3 x3 f3 z3 => Bk_v (u288_2128 (l0 := 31) hK x3 ⟨fun _ => nx.k hK x3 (RZ.k0 hI hc hm f1 f3) _ _, fun h9 => absurd rfl h9⟩)⟩⟩
theorem op_925 (hK : K.1 = 923) (hX : FX M) (hR : RZ M) (hi : InR M i) (nx : Nx d Q M K i) : Wp (d + 101) 288 925 [vR 31, vR 32, vR 440, vR 922, vI (i : Int), l5, l6, vU] [] M K Q := by
  obtain ⟨nB, B, fp, c, L, s, H, I, Y, rf, ms, wr, hI, hc, hm⟩ := hR
  refine u288_925 (l0 := 31) hK hX ⟨hi.r 1 (by decide), hi.r 2 (by decide), u268_0 hK hX (c110 hK hX hc.gc ⟨fun h1 => ?_, fun _ h2 => absurd trivial h2, fun h1 h2 M1 x1 f1 => Bk_v ?_⟩)⟩
  · refine Bk_h (by decide +kernel) (by decide +kernel) (u268_20 (K := K9 K) hK hX.i18 (Bk_v (gn hK hX hI hc hm nx (fun M2 K2 hK2 x2 sc2 m2 nx2 r2 => ?_))))
    refine u288_942 (l0 := 31) hK2 x2 ⟨(hi.fr sc2).r 1 (by decide), (hi.fr sc2).r 2 (by decide), o_all.2.1, ?_⟩
    rw [sc2 31 _ (by decide), sc2 31 _ (by decide)]
    exact m214 hK2 x2 m2.gm ⟨fun g1 M3 x3 b3 => Bk_v (u288_960 (l0 := 31) hK2 x3 ⟨o_all.2.1, u151_0 hK2 x3 (Bk_v (u288_966 (l0 := 31) hK2 x3 ⟨fun _ => ⟨fun _ => nx2 M3 _ _ x3 (r2 M3 _ b3), fun h0 => absurd h0 (by decide)⟩, fun h9 => absurd b3.2.1 h9⟩))⟩), fun _ g2 => absurd trivial g2, fun g1 => absurd g1 h1⟩
  · refine u268_8 hK x1 ⟨fun e0 => ⟨o_all.2.2.1, o_ln, Bk_v (gk hK x1 f1 hI hc hm nx (fun M2 K2 hK2 x2 sc2 m2 nx2 r2 => ?_))⟩, fun e0 => ⟨o_all.2.2.1, o_ln, Bk_v (gk hK x1 f1 hI hc hm nx (fun M2 K2 hK2 x2 sc2 m2 nx2 r2 => ?_))⟩⟩
    · refine u288_942 (l0 := 31) hK2 x2 ⟨(hi.fr sc2).r 1 (by decide), (hi.fr sc2).r 2 (by decide), o_all.2.1, ?_⟩
      rw [sc2 31 _ (by decide), sc2 31 _ (by decide)]
      exact m214 hK2 x2 m2.gm ⟨fun g1 => absurd h1 g1, fun _ g2 => absurd trivial g2, fun g1 g2 M3 x3 f3 z3 => Bk_v (u288_960 (l0 := 31) hK2 x3 ⟨o_all.2.1, u151_0 hK2 x3 (Bk_v (u288_966 (l0 := 31) hK2 x3 ⟨fun _ => ⟨fun h0 => absurd rfl h0, fun _ => ⟨o_all.2.2.1, o_ln, fun _ => ⟨fun _ => nx2 M3 _ _ x3 (r2 M3 f3).1, fun h9 => absurd (by rw [(r2 M3 f3).2]; exact jcmp_s) h9⟩, fun h8 => absurd e0 h8⟩⟩, fun h9 => absurd z3 h9⟩))⟩)⟩
    · refine u288_942 (l0 := 31) hK2 x2 ⟨(hi.fr sc2).r 1 (by decide), (hi.fr sc2).r 2 (by decide), o_all.2.1, ?_⟩
      rw [sc2 31 _ (by decide), sc2 31 _ (by decide)]
      exact m214 hK2 x2 m2.gm ⟨fun g1 => absurd h1 g1, fun _ g2 => absurd trivial g2, fun g1 g2 M3 x3 f3 z3 => Bk_v (u288_960 (l0 := 31) hK2 x3 ⟨o_all.2.1, u151_0 hK2 x3 (Bk_v (u288_966 (l0 := 31) hK2 x3 ⟨fun _ => ⟨fun h0 => absurd rfl h0, fun _ => ⟨o_all.2.2.1, o_ln, fun h8 => absurd h8 e0, fun _ => ⟨fun _ => nx2 M3 _ _ x3 (r2 M3 f3).1, fun h9 => absurd (by rw [(r2 M3 f3).2]; exact jcmp_s) h9⟩⟩⟩, fun h9 => absurd z3 h9⟩))⟩)⟩
end OPC
