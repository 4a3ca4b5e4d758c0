theorem u259_0 {d : Nat} {l2 : Nat} {l1 : Int} {M : Mem} {K : KK} {Q : RR → Mem → KK → Prop} (hK : K.1 = 923) (hX : FX M)  (h : Wm d 99 [vR 32, vI l1] M K (Bk d 259 4 7 99 [vR 32, vI l1, vR l2, vU] [vI (0 : Int), vR l2] Q)) : Wp (d + 1) 259 0 [vR 32, vI l1, vR l2, vU] [] M K Q := by
  refine r_aload_n c259_0 rfl ?_
  refine r_iconst c259_1 ?_
  refine r_aload_n c259_2 rfl ?_
  refine r_iload_n c259_3 rfl ?_
  exact r_call c259_4 rfl rfl (Nat.le_of_ble_eq_true rfl) (okc_r rfl rfl (oK hK o32)) h
theorem u259_7 {d : Nat} {l2 : Nat} {l1 : Int} {t1 : Int} {t2 : Int} {M : Mem} {K : KK} {Q : RR → Mem → KK → Prop} (hK : K.1 = 923) (hX : FX M)  (h : isO 923 l2 22 = true ∧ (0 ≤ t1 ∧ t1 < (ln l2 : Int)) ∧ Q (.inl (some (vI (0 : Int)))) (mset M l2 (Int.toNat t1) t2) K) : Wp (d + 1) 259 7 [vR 32, vI l1, vR l2, vU] [vI t2, vI t1, vR l2] M K Q := by
  refine r_i2l c259_7 ?_
  obtain ⟨o1, h⟩ := h
  obtain ⟨s2, h⟩ := h
  refine r_las c259_8 (oK hK o1) s2 ?_
  have x3 := FX.set (v := t2) (a := l2) (k := (Int.toNat t1)) hX (nfl o1 _)
  refine r_goto c259_9 ?_
  refine r_iconst c259_15 ?_
  exact r_iret c259_16 (Or.inl rfl) h
theorem u259_12 {d : Nat} {l2 : Nat} {l1 : Int} {M : Mem} {K : KK} {Q : RR → Mem → KK → Prop} (hK : K.1 = 923) (hX : FX M)  (h : Q (.inl (some (vI (1 : Int)))) M K) : Wp (d + 1) 259 12 [vR 32, vI l1, vR l2, vU] [vU] M K Q := by
  refine r_ustore_n c259_12 (Nat.le_of_ble_eq_true rfl) ?_
  refine r_iconst c259_13 ?_
  exact r_iret c259_14 (Or.inl rfl) h
theorem u260_0 {d : Nat} {l2 : Nat} {l1 : Int} {M : Mem} {K : KK} {Q : RR → Mem → KK → Prop} (hK : K.1 = 923) (hX : FX M)  (h : Wm d 100 [vR 32, vI l1] M K (Bk d 260 4 7 100 [vR 32, vI l1, vR l2, vU] [vI (0 : Int), vR l2] Q)) : Wp (d + 1) 260 0 [vR 32, vI l1, vR l2, vU] [] M K Q := by
  refine r_aload_n c260_0 rfl ?_
  refine r_iconst c260_1 ?_
  refine r_aload_n c260_2 rfl ?_
  refine r_iload_n c260_3 rfl ?_
  exact r_call c260_4 rfl rfl (Nat.le_of_ble_eq_true rfl) (okc_r rfl rfl (oK hK o32)) h
theorem u260_7 {d : Nat} {l2 : Nat} {l1 : Int} {t1 : Int} {t2 : Int} {M : Mem} {K : KK} {Q : RR → Mem → KK → Prop} (hK : K.1 = 923) (hX : FX M)  (h : isO 923 l2 22 = true ∧ (0 ≤ t1 ∧ t1 < (ln l2 : Int)) ∧ Q (.inl (some (vI (0 : Int)))) (mset M l2 (Int.toNat t1) t2) K) : Wp (d + 1) 260 7 [vR 32, vI l1, vR l2, vU] [vI t2, vI t1, vR l2] M K Q := by
  refine r_i2l c260_7 ?_
  obtain ⟨o1, h⟩ := h
  obtain ⟨s2, h⟩ := h
  refine r_las c260_8 (oK hK o1) s2 ?_
  have x3 := FX.set (v := t2) (a := l2) (k := (Int.toNat t1)) hX (nfl o1 _)
  refine r_goto c260_9 ?_
  refine r_iconst c260_15 ?_
  exact r_iret c260_16 (Or.inl rfl) h
theorem u260_12 {d : Nat} {l2 : Nat} {l1 : Int} {M : Mem} {K : KK} {Q : RR → Mem → KK → Prop} (hK : K.1 = 923) (hX : FX M)  (h : Q (.inl (some (vI (1 : Int)))) M K) : Wp (d + 1) 260 12 [vR 32, vI l1, vR l2, vU] [vU] M K Q := by
  refine r_ustore_n c260_12 (Nat.le_of_ble_eq_true rfl) ?_
  refine r_iconst c260_13 ?_
  exact r_iret c260_14 (Or.inl rfl) h
theorem u261_0 {d : Nat} {l2 : Nat} {l1 : Int} {M : Mem} {K : KK} {Q : RR → Mem → KK → Prop} (hK : K.1 = 923) (hX : FX M)  (h : Wm d 101 [vR 32, vI l1] M K (Bk d 261 4 7 101 [vR 32, vI l1, vR l2, vU] [vI (0 : Int), vR l2] Q)) : Wp (d + 1) 261 0 [vR 32, vI l1, vR l2, vU] [] M K Q := by
  refine r_aload_n c261_0 rfl ?_
  refine r_iconst c261_1 ?_
  refine r_aload_n c261_2 rfl ?_
  refine r_iload_n c261_3 rfl ?_
  exact r_call c261_4 rfl rfl (Nat.le_of_ble_eq_true rfl) (okc_r rfl rfl (oK hK o32)) h
theorem u261_7 {d : Nat} {l2 : Nat} {l1 : Int} {t1 : Int} {t2 : Int} {M : Mem} {K : KK} {Q : RR → Mem → KK → Prop} (hK : K.1 = 923) (hX : FX M)  (h : isO 923 l2 22 = true ∧ (0 ≤ t1 ∧ t1 < (ln l2 : Int)) ∧ Q (.inl (some (vI (0 : Int)))) (mset M l2 (Int.toNat t1) t2) K) : Wp (d + 1) 261 7 [vR 32, vI l1, vR l2, vU] [vI t2, vI t1, vR l2] M K Q := by
  refine r_i2l c261_7 ?_
  obtain ⟨o1, h⟩ := h
  obtain ⟨s2, h⟩ := h
  refine r_las c261_8 (oK hK o1) s2 ?_
  have x3 := FX.set (v := t2) (a := l2) (k := (Int.toNat t1)) hX (nfl o1 _)
  refine r_goto c261_9 ?_
  refine r_iconst c261_15 ?_
  exact r_iret c261_16 (Or.inl rfl) h
theorem u261_12 {d : Nat} {l2 : Nat} {l1 : Int} {M : Mem} {K : KK} {Q : RR → Mem → KK → Prop} (hK : K.1 = 923) (hX : FX M)  (h : Q (.inl (some (vI (1 : Int)))) M K) : Wp (d + 1) 261 12 [vR 32, vI l1, vR l2, vU] [vU] M K Q := by
  refine r_ustore_n c261_12 (Nat.le_of_ble_eq_true rfl) ?_
  refine r_iconst c261_13 ?_
  exact r_iret c261_14 (Or.inl rfl) h
theorem u262_0 {d : Nat} {l2 : Nat} {l1 : Int} {M : Mem} {K : KK} {Q : RR → Mem → KK → Prop} (hK : K.1 = 923) (hX : FX M)  (h : Wm d 102 [vR 32, vI l1] M K (Bk d 262 4 7 102 [vR 32, vI l1, vR l2, vU] [vI (0 : Int), vR l2] Q)) : Wp (d + 1) 262 0 [vR 32, vI l1, vR l2, vU] [] M K Q := by
  refine r_aload_n c262_0 rfl ?_
  refine r_iconst c262_1 ?_
  refine r_aload_n c262_2 rfl ?_
  refine r_iload_n c262_3 rfl ?_
  exact r_call c262_4 rfl rfl (Nat.le_of_ble_eq_true rfl) (okc_r rfl rfl (oK hK o32)) h
theorem u262_7 {d : Nat} {l2 : Nat} {l1 : Int} {t1 : Int} {t2 : Int} {M : Mem} {K : KK} {Q : RR → Mem → KK → Prop} (hK : K.1 = 923) (hX : FX M)  (h : isO 923 l2 22 = true ∧ (0 ≤ t1 ∧ t1 < (ln l2 : Int)) ∧ Q (.inl (some (vI (0 : Int)))) (mset M l2 (Int.toNat t1) t2) K) : Wp (d + 1) 262 7 [vR 32, vI l1, vR l2, vU] [vI t2, vI t1, vR l2] M K Q := by
  refine r_i2l c262_7 ?_
  obtain ⟨o1, h⟩ := h
  obtain ⟨s2, h⟩ := h
  refine r_las c262_8 (oK hK o1) s2 ?_
  have x3 := FX.set (v := t2) (a := l2) (k := (Int.toNat t1)) hX (nfl o1 _)
  refine r_goto c262_9 ?_
  refine r_iconst c262_15 ?_
  exact r_iret c262_16 (Or.inl rfl) h
theorem u262_12 {d : Nat} {l2 : Nat} {l1 : Int} {M : Mem} {K : KK} {Q : RR → Mem → KK → Prop} (hK : K.1 = 923) (hX : FX M)  (h : Q (.inl (some (vI (1 : Int)))) M K) : Wp (d + 1) 262 12 [vR 32, vI l1, vR l2, vU] [vU] M K Q := by
  refine r_ustore_n c262_12 (Nat.le_of_ble_eq_true rfl) ?_
  refine r_iconst c262_13 ?_
  exact r_iret c262_14 (Or.inl rfl) h
/-! operations that read a text -/
section OPD
variable {d i : Nat} {M : Mem} {K : KK} {Q : RR → Mem → KK → Prop} {l5 l6 : PV}
theorem op_337 (hK : K.1 = 923) (hX : FX M) (hR : RZ M) (hi : InR M i) (nx : Nx d Q M K i) : Wp (d + 101) 288 337 [vR 31, vR 32, vR 440, vR 922, vI (i : Int), l5, l6, vU] [] M K Q := by
  obtain ⟨nB, B, fp, c, L, s, H, I, Y, rf, ms, wr, hI, hc, hm⟩ := hR
  refine u288_337 (l0 := 31) hK hX ⟨hi.r 1 (by decide), u260_0 hK hX (c100 hK hX hI hc (fun h2 => ?_) (fun h2 M1 x1 f1 c1 => ?_))⟩
  · refine Bk_h (by decide +kernel) (by decide +kernel) (u260_12 (K := K9 K) hK hX.i19 (Bk_v (gb hK hX hI hc hm nx (fun M2 K2 hK2 x2 sc2 m2 nx2 r2 => ?_))))
    refine u288_348 (l0 := 31) hK2 x2 ⟨(hi.fr sc2).r 1 (by decide), o_all.2.1, ?_⟩
    rw [sc2 31 _ (by decide)]
    exact m186 hK2 x2 hI m2 (fun g2 M3 x3 b3 => Bk_v (u288_360 (l0 := 31) hK2 x3 ⟨o_all.2.1, u151_0 hK2 x3 (Bk_v (u288_366 (l0 := 31) hK2 x3 ⟨fun _ => ⟨fun _ => nx2 M3 _ _ x3 (r2 M3 _ b3), fun h0 => absurd h0 (by decide)⟩, fun h9 => absurd b3.2.1 h9⟩))⟩)) (fun g2 => absurd g2 h2)
  · refine Bk_v (u260_7 hK x1 ⟨o_all.2.2.1, o_ln, Bk_v (gu hK x1 f1 hI hm c1 nx (fun M2 K2 hK2 x2 sc2 m2 nx2 r2 => ?_))⟩)
    refine u288_348 (l0 := 31) hK2 x2 ⟨(hi.fr sc2).r 1 (by decide), o_all.2.1, ?_⟩
    rw [sc2 31 _ (by decide)]
    exact m186 hK2 x2 hI m2 (fun g2 => absurd h2 g2) (fun g2 M3 x3 f3 z3 m3 => Bk_v (u288_360 (l0 := 31) hK2 x3 ⟨o_all.2.1, u151_0 hK2 x3 (Bk_v (u288_366 (l0 := 31) hK2 x3 ⟨fun _ => ⟨fun h0 => absurd rfl h0, fun _ => ⟨o_all.2.2.1, o_ln, fun _ => nx2 M3 _ _ x3 (r2 M3 hI.z f3 m3).1, fun h9 => absurd (by rw [(r2 M3 hI.z f3 m3).2]; exact jcmp_s) h9⟩⟩, fun h9 => absurd z3 h9⟩))⟩))
theorem op_449 (hK : K.1 = 923) (hX : FX M) (hR : RZ M) (hi : InR M i) (nx : Nx d Q M K i) : Wp (d + 101) 288 449 [vR 31, vR 32, vR 440, vR 922, vI (i : Int), l5, l6, vU] [] M K Q := by
  obtain ⟨nB, B, fp, c, L, s, H, I, Y, rf, ms, wr, hI, hc, hm⟩ := hR
  refine u288_449 (l0 := 31) hK hX ⟨hi.r 1 (by decide), u262_0 hK hX (c102 hK hX hI hc (fun h2 => ?_) (fun h2 M1 x1 f1 c1 => ?_))⟩
  · refine Bk_h (by decide +kernel) (by decide +kernel) (u262_12 (K := K9 K) hK hX.i19 (Bk_v (gb hK hX hI hc hm nx (fun M2 K2 hK2 x2 sc2 m2 nx2 r2 => ?_))))
    refine u288_460 (l0 := 31) hK2 x2 ⟨(hi.fr sc2).r 1 (by decide), o_all.2.1, ?_⟩
    rw [sc2 31 _ (by decide)]
    exact m191 hK2 x2 hI m2 (fun g2 M3 x3 b3 => Bk_v (u288_472 (l0 := 31) hK2 x3 ⟨o_all.2.1, u151_0 hK2 x3 (Bk_v (u288_478 (l0 := 31) hK2 x3 ⟨fun _ => ⟨fun _ => nx2 M3 _ _ x3 (r2 M3 _ b3), fun h0 => absurd h0 (by decide)⟩, fun h9 => absurd b3.2.1 h9⟩))⟩)) (fun g2 => absurd g2 h2)
  · refine Bk_v (u262_7 hK x1 ⟨o_all.2.2.1, o_ln, Bk_v (gu hK x1 f1 hI hm c1 nx (fun M2 K2 hK2 x2 sc2 m2 nx2 r2 => ?_))⟩)
    refine u288_460 (l0 := 31) hK2 x2 ⟨(hi.fr sc2).r 1 (by decide), o_all.2.1, ?_⟩
    rw [sc2 31 _ (by decide)]
    exact m191 hK2 x2 hI m2 (fun g2 => absurd h2 g2) (fun g2 hs M3 x3 f3 z3 m3 => Bk_v (u288_472 (l0 := 31) hK2 x3 ⟨o_all.2.1, u151_0 hK2 x3 (Bk_v (u288_478 (l0 := 31) hK2 x3 ⟨fun _ => ⟨fun h0 => absurd rfl h0, fun _ => ⟨o_all.2.2.1, o_ln, fun _ => nx2 M3 _ _ x3 (r2 M3 (hI.say hs) f3 m3).1, fun h9 => absurd (by rw [(r2 M3 (hI.say hs) f3 m3).2]; exact jcmp_s) h9⟩⟩, fun h9 => absurd z3 h9⟩))⟩))
theorem op_281 (hK : K.1 = 923) (hX : FX M) (hR : RZ M) (hi : InR M i) (nx : Nx d Q M K i) : Wp (d + 101) 288 281 [vR 31, vR 32, vR 440, vR 922, vI (i : Int), l5, l6, vU] [] M K Q := by
  obtain ⟨nB, B, fp, c, L, s, H, I, Y, rf, ms, wr, hI, hc, hm⟩ := hR
  refine u288_281 (l0 := 31) hK hX ⟨hi.r 1 (by decide), u259_0 hK hX (c99 hK hX hI hc (fun h2 => ?_) (fun h2 p hp M1 x1 f1 c1 => ?_) (fun h2 f hp M1 x1 f1 c1 => ?_))⟩
  · refine Bk_h (by decide +kernel) (by decide +kernel) (u259_12 (K := K9 K) hK hX.i19 (Bk_v (gb hK hX hI hc hm nx (fun M2 K2 hK2 x2 sc2 m2 nx2 r2 => ?_))))
    refine u288_292 (l0 := 31) hK2 x2 ⟨(hi.fr sc2).r 1 (by decide), o_all.2.1, ?_⟩
    rw [sc2 31 _ (by decide)]
    exact m176 hK2 x2 hI m2 (fun g2 M3 x3 b3 => Bk_v (u288_304 (l0 := 31) hK2 x3 ⟨o_all.2.1, u151_0 hK2 x3 (Bk_v (u288_310 (l0 := 31) hK2 x3 ⟨fun _ => ⟨fun _ => nx2 M3 _ _ x3 (r2 M3 _ b3), fun h0 => absurd h0 (by decide)⟩, fun h9 => absurd b3.2.1 h9⟩))⟩)) (fun g2 => absurd g2 h2) (fun g2 => absurd g2 h2)
  · refine Bk_v (u259_7 hK x1 ⟨o_all.2.2.1, o_ln, Bk_v (gu hK x1 f1 hI hm c1 nx (fun M2 K2 hK2 x2 sc2 m2 nx2 r2 => ?_))⟩)
    refine u288_292 (l0 := 31) hK2 x2 ⟨(hi.fr sc2).r 1 (by decide), o_all.2.1, ?_⟩
    rw [sc2 31 _ (by decide)]
    have hI' : IV 0 B (pCom B (M 31 (Int.toNat (w32 ((i : Int) + 1)))).toNat).2 (begS (pCom B (M 31 (Int.toNat (w32 ((i : Int) + 1)))).toNat).2) [] [] [] := IV.com pCom_w
    exact m176 hK2 x2 hI m2 (fun g2 => absurd h2 g2) (fun g2 p2 hp2 M3 x3 f3 z3 m3 => Bk_v (u288_304 (l0 := 31) hK2 x3 ⟨o_all.2.1, u151_0 hK2 x3 (Bk_v (u288_310 (l0 := 31) hK2 x3 ⟨fun _ => ⟨fun h0 => absurd rfl h0, fun _ => ⟨o_all.2.2.1, o_ln, fun _ => nx2 M3 _ _ x3 (r2 M3 hI' f3 m3).1, fun h9 => absurd (by rw [(r2 M3 hI' f3 m3).2]; exact jcmp_s) h9⟩⟩, fun h9 => absurd z3 h9⟩))⟩)) (fun g2 f2 hp2 => by rw [hp] at hp2; cases hp2)
  · refine Bk_v (u259_7 hK x1 ⟨o_all.2.2.1, o_ln, Bk_v (gu hK x1 f1 hI hm c1 nx (fun M2 K2 hK2 x2 sc2 m2 nx2 r2 => ?_))⟩)
    refine u288_292 (l0 := 31) hK2 x2 ⟨(hi.fr sc2).r 1 (by decide), o_all.2.1, ?_⟩
    rw [sc2 31 _ (by decide)]
    refine m176 hK2 x2 hI m2 (fun g2 => absurd h2 g2) (fun g2 p2 hp2 => by rw [hp] at hp2; cases hp2) (fun g2 f2 hp2 M3 x3 f3 z3 m3 => ?_)
    have e : f2 = f := by rw [hp] at hp2; cases hp2; rfl
    subst e
    exact Bk_v (u288_304 (l0 := 31) hK2 x3 ⟨o_all.2.1, u151_0 hK2 x3 (Bk_v (u288_310 (l0 := 31) hK2 x3 ⟨fun _ => ⟨fun h0 => absurd rfl h0, fun _ => ⟨o_all.2.2.1, o_ln, fun _ => nx2 M3 _ _ x3 (r2 M3 hI.z f3 m3).1, fun h9 => absurd (by rw [(r2 M3 hI.z f3 m3).2]; exact jcmp_s) h9⟩⟩, fun h9 => absurd z3 h9⟩))⟩)
theorem op_393 (hK : K.1 = 923) (hX : FX M) (hR : RZ M) (hi : InR M i) (nx : Nx d Q M K i) : Wp (d + 101) 288 393 [vR 31, vR 32, vR 440, vR 922, vI (i : Int), l5, l6, vU] [] M K Q := by
  obtain ⟨nB, B, fp, c, L, s, H, I, Y, rf, ms, wr, hI, hc, hm⟩ := hR
  refine u288_393 (l0 := 31) hK hX ⟨hi.r 1 (by decide), u261_0 hK hX (c101 hK hX hI hc (fun h2 => ?_) (fun h2 hl M1 x1 f1 c1 => ?_) (fun h2 hl p hp hw M1 x1 f1 c1 => ?_) (fun h2 hl f hp M1 x1 f1 c1 => ?_))⟩
  · refine Bk_h (by decide +kernel) (by decide +kernel) (u261_12 (K := K9 K) hK hX.i19 (Bk_v (gb hK hX hI hc hm nx (fun M2 K2 hK2 x2 sc2 m2 nx2 r2 => ?_))))
    refine u288_404 (l0 := 31) hK2 x2 ⟨(hi.fr sc2).r 1 (by decide), o_all.2.1, ?_⟩
    rw [sc2 31 _ (by decide)]
    exact m202 hK2 x2 hI m2 (fun g2 M3 x3 b3 => Bk_v (u288_416 (l0 := 31) hK2 x3 ⟨o_all.2.1, u151_0 hK2 x3 (Bk_v (u288_422 (l0 := 31) hK2 x3 ⟨fun _ => ⟨fun _ => nx2 M3 _ _ x3 (r2 M3 _ b3), fun h0 => absurd h0 (by decide)⟩, fun h9 => absurd b3.2.1 h9⟩))⟩)) (fun g2 => absurd g2 h2) (fun g2 => absurd g2 h2) (fun g2 => absurd g2 h2)
  · refine Bk_v (u261_7 hK x1 ⟨o_all.2.2.1, o_ln, Bk_v (gu hK x1 f1 hI hm c1 nx (fun M2 K2 hK2 x2 sc2 m2 nx2 r2 => ?_))⟩)
    refine u288_404 (l0 := 31) hK2 x2 ⟨(hi.fr sc2).r 1 (by decide), o_all.2.1, ?_⟩
    rw [sc2 31 _ (by decide)]
    exact m202 hK2 x2 hI m2 (fun g2 => absurd h2 g2) (fun g2 gl M3 x3 f3 z3 m3 => Bk_v (u288_416 (l0 := 31) hK2 x3 ⟨o_all.2.1, u151_0 hK2 x3 (Bk_v (u288_422 (l0 := 31) hK2 x3 ⟨fun _ => ⟨fun h0 => absurd rfl h0, fun _ => ⟨o_all.2.2.1, o_ln, fun _ => nx2 M3 _ _ x3 (r2 M3 hI.z f3 m3).1, fun h9 => absurd (by rw [(r2 M3 hI.z f3 m3).2]; exact jcmp_s) h9⟩⟩, fun h9 => absurd z3 h9⟩))⟩)) (fun g2 gl => absurd gl hl) (fun g2 gl => absurd gl hl)
  · refine Bk_v (u261_7 hK x1 ⟨o_all.2.2.1, o_ln, Bk_v (gu hK x1 f1 hI hm c1 nx (fun M2 K2 hK2 x2 sc2 m2 nx2 r2 => ?_))⟩)
    refine u288_404 (l0 := 31) hK2 x2 ⟨(hi.fr sc2).r 1 (by decide), o_all.2.1, ?_⟩
    rw [sc2 31 _ (by decide)]
    exact m202 hK2 x2 hI m2 (fun g2 => absurd h2 g2) (fun g2 gl => absurd hl gl) (fun g2 gl p2 hp2 hw2 M3 x3 f3 z3 m3 => Bk_v (u288_416 (l0 := 31) hK2 x3 ⟨o_all.2.1, u151_0 hK2 x3 (Bk_v (u288_422 (l0 := 31) hK2 x3 ⟨fun _ => ⟨fun h0 => absurd rfl h0, fun _ => ⟨o_all.2.2.1, o_ln, fun _ => nx2 M3 _ _ x3 (r2 M3 (hI.wrk hl hw) f3 m3).1, fun h9 => absurd (by rw [(r2 M3 (hI.wrk hl hw) f3 m3).2]; exact jcmp_s) h9⟩⟩, fun h9 => absurd z3 h9⟩))⟩)) (fun g2 gl f2 hp2 => by rw [hp] at hp2; cases hp2)
  · refine Bk_v (u261_7 hK x1 ⟨o_all.2.2.1, o_ln, Bk_v (gu hK x1 f1 hI hm c1 nx (fun M2 K2 hK2 x2 sc2 m2 nx2 r2 => ?_))⟩)
    refine u288_404 (l0 := 31) hK2 x2 ⟨(hi.fr sc2).r 1 (by decide), o_all.2.1, ?_⟩
    rw [sc2 31 _ (by decide)]
    refine m202 hK2 x2 hI m2 (fun g2 => absurd h2 g2) (fun g2 gl => absurd hl gl) (fun g2 gl p2 hp2 => by rw [hp] at hp2; cases hp2) (fun g2 gl f2 hp2 M3 x3 f3 z3 m3 => ?_)
    have e : f2 = f := by rw [hp] at hp2; cases hp2; rfl
    subst e
    exact Bk_v (u288_416 (l0 := 31) hK2 x3 ⟨o_all.2.1, u151_0 hK2 x3 (Bk_v (u288_422 (l0 := 31) hK2 x3 ⟨fun _ => ⟨fun h0 => absurd rfl h0, fun _ => ⟨o_all.2.2.1, o_ln, fun _ => nx2 M3 _ _ x3 (r2 M3 hI.z f3 m3).1, fun h9 => absurd (by rw [(r2 M3 hI.z f3 m3).2]; exact jcmp_s) h9⟩⟩, fun h9 => absurd z3 h9⟩))⟩)
end OPD
