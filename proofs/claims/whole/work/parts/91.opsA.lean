theorem u263_0 {d : Nat} {l2 : Nat} {l1 : Int} {M : Mem} {K : KK} {Q : RR → Mem → KK → Prop} (hK : K.1 = 922) (hX : FX M)  (h : Wm d 105 [vR 32, vI l1] M K (Bk d 263 4 7 105 [vR 32, vI l1, vR l2, vU] [vI (0 : Int), vR l2] Q)) : Wp (d + 1) 263 0 [vR 32, vI l1, vR l2, vU] [] M K Q := by
  refine r_aload_n c263_0 rfl ?_
  refine r_iconst c263_1 ?_
  refine r_aload_n c263_2 rfl ?_
  refine r_iload_n c263_3 rfl ?_
  exact r_call c263_4 rfl rfl (Nat.le_of_ble_eq_true rfl) (okc_r rfl rfl (oK hK o32)) h
theorem u263_7 {d : Nat} {l2 : Nat} {l1 : Int} {t1 : Int} {t2 : Int} {M : Mem} {K : KK} {Q : RR → Mem → KK → Prop} (hK : K.1 = 922) (hX : FX M)  (h : isO 922 l2 22 = true ∧ (0 ≤ t1 ∧ t1 < (ln l2 : Int)) ∧ Q (.inl (some (vI (0 : Int)))) (mset M l2 (Int.toNat t1) t2) K) : Wp (d + 1) 263 7 [vR 32, vI l1, vR l2, vU] [vI t2, vI t1, vR l2] M K Q := by
  refine r_i2l c263_7 ?_
  obtain ⟨o1, h⟩ := h
  obtain ⟨s2, h⟩ := h
  refine r_las c263_8 (oK hK o1) s2 ?_
  have x3 := FX.set (v := t2) (a := l2) (k := (Int.toNat t1)) hX (nfl o1 _)
  refine r_goto c263_9 ?_
  refine r_iconst c263_15 ?_
  exact r_iret c263_16 (Or.inl rfl) h
theorem u263_12 {d : Nat} {l2 : Nat} {l1 : Int} {M : Mem} {K : KK} {Q : RR → Mem → KK → Prop} (hK : K.1 = 922) (hX : FX M)  (h : Q (.inl (some (vI (1 : Int)))) M K) : Wp (d + 1) 263 12 [vR 32, vI l1, vR l2, vU] [vU] M K Q := by
  refine r_ustore_n c263_12 (Nat.le_of_ble_eq_true rfl) ?_
  refine r_iconst c263_13 ?_
  exact r_iret c263_14 (Or.inl rfl) h
theorem u264_0 {d : Nat} {l3 : Nat} {l1 : Int} {l2 : Int} {M : Mem} {K : KK} {Q : RR → Mem → KK → Prop} (hK : K.1 = 922) (hX : FX M)  (h : Wm d 106 [vR 32, vI l1, vI l2] M K (Bk d 264 5 8 106 [vR 32, vI l1, vI l2, vR l3, vU] [vI (0 : Int), vR l3] Q)) : Wp (d + 1) 264 0 [vR 32, vI l1, vI l2, vR l3, vU] [] M K Q := by
  refine r_aload_n c264_0 rfl ?_
  refine r_iconst c264_1 ?_
  refine r_aload_n c264_2 rfl ?_
  refine r_iload_n c264_3 rfl ?_
  refine r_iload_n c264_4 rfl ?_
  exact r_call c264_5 rfl rfl (Nat.le_of_ble_eq_true rfl) (okc_r rfl rfl (oK hK o32)) h
theorem u264_8 {d : Nat} {l3 : Nat} {l1 : Int} {l2 : Int} {t1 : Int} {t2 : Int} {M : Mem} {K : KK} {Q : RR → Mem → KK → Prop} (hK : K.1 = 922) (hX : FX M)  (h : isO 922 l3 22 = true ∧ (0 ≤ t1 ∧ t1 < (ln l3 : Int)) ∧ Q (.inl (some (vI (0 : Int)))) (mset M l3 (Int.toNat t1) t2) K) : Wp (d + 1) 264 8 [vR 32, vI l1, vI l2, vR l3, vU] [vI t2, vI t1, vR l3] M K Q := by
  refine r_i2l c264_8 ?_
  obtain ⟨o1, h⟩ := h
  obtain ⟨s2, h⟩ := h
  refine r_las c264_9 (oK hK o1) s2 ?_
  have x3 := FX.set (v := t2) (a := l3) (k := (Int.toNat t1)) hX (nfl o1 _)
  refine r_goto c264_10 ?_
  refine r_iconst c264_21 ?_
  exact r_iret c264_22 (Or.inl rfl) h
theorem u264_13 {d : Nat} {l3 : Nat} {l1 : Int} {l2 : Int} {M : Mem} {K : KK} {Q : RR → Mem → KK → Prop} (hK : K.1 = 922) (hX : FX M)  (h : Q (.inl (some (vI (1 : Int)))) M K) : Wp (d + 1) 264 13 [vR 32, vI l1, vI l2, vR l3, vU] [vU] M K Q := by
  refine r_ustore c264_13 (Nat.le_of_ble_eq_true rfl) ?_
  refine r_iconst c264_15 ?_
  exact r_iret c264_16 (Or.inl rfl) h
theorem u264_17 {d : Nat} {l3 : Nat} {l1 : Int} {l2 : Int} {M : Mem} {K : KK} {Q : RR → Mem → KK → Prop} (hK : K.1 = 922) (hX : FX M)  (h : Q (.inl (some (vI (2 : Int)))) M K) : Wp (d + 1) 264 17 [vR 32, vI l1, vI l2, vR l3, vU] [vU] M K Q := by
  refine r_ustore c264_17 (Nat.le_of_ble_eq_true rfl) ?_
  refine r_iconst c264_19 ?_
  exact r_iret c264_20 (Or.inl rfl) h
theorem u266_0 {d : Nat} {l2 : Nat} {l1 : Int} {M : Mem} {K : KK} {Q : RR → Mem → KK → Prop} (hK : K.1 = 922) (hX : FX M)  (h : Wm d 108 [vR 32, vI l1] M K (Bk d 266 4 7 108 [vR 32, vI l1, vR l2, vU] [vI (0 : Int), vR l2] Q)) : Wp (d + 1) 266 0 [vR 32, vI l1, vR l2, vU] [] M K Q := by
  refine r_aload_n c266_0 rfl ?_
  refine r_iconst c266_1 ?_
  refine r_aload_n c266_2 rfl ?_
  refine r_iload_n c266_3 rfl ?_
  exact r_call c266_4 rfl rfl (Nat.le_of_ble_eq_true rfl) (okc_r rfl rfl (oK hK o32)) h
theorem u266_7 {d : Nat} {l2 : Nat} {l1 : Int} {t1 : Int} {t2 : Int} {M : Mem} {K : KK} {Q : RR → Mem → KK → Prop} (hK : K.1 = 922) (hX : FX M)  (h : isO 922 l2 22 = true ∧ (0 ≤ t1 ∧ t1 < (ln l2 : Int)) ∧ Q (.inl (some (vI (0 : Int)))) (mset M l2 (Int.toNat t1) t2) K) : Wp (d + 1) 266 7 [vR 32, vI l1, vR l2, vU] [vI t2, vI t1, vR l2] M K Q := by
  refine r_i2l c266_7 ?_
  obtain ⟨o1, h⟩ := h
  obtain ⟨s2, h⟩ := h
  refine r_las c266_8 (oK hK o1) s2 ?_
  have x3 := FX.set (v := t2) (a := l2) (k := (Int.toNat t1)) hX (nfl o1 _)
  refine r_goto c266_9 ?_
  refine r_iconst c266_15 ?_
  exact r_iret c266_16 (Or.inl rfl) h
theorem u266_12 {d : Nat} {l2 : Nat} {l1 : Int} {M : Mem} {K : KK} {Q : RR → Mem → KK → Prop} (hK : K.1 = 922) (hX : FX M)  (h : Q (.inl (some (vI (1 : Int)))) M K) : Wp (d + 1) 266 12 [vR 32, vI l1, vR l2, vU] [vU] M K Q := by
  refine r_ustore_n c266_12 (Nat.le_of_ble_eq_true rfl) ?_
  refine r_iconst c266_13 ?_
  exact r_iret c266_14 (Or.inl rfl) h
/-! operations that ask -/
section OPS
variable {d i : Nat} {M : Mem} {K : KK} {Q : RR → Mem → KK → Prop}
theorem op_531 {l5 l6 : PV} (hK : K.1 = 922) (hX : FX M) (hR : RZ M) (hi : InR M i) (nx : Nx d Q M K i) : Wp (d + 101) 288 531 [vR 31, vR 32, vR 439, vR 921, vI (i : Int), l5, l6, vU] [] M K Q := by
  obtain ⟨nB, B, fp, c, L, s, H, I, Y, rf, ms, wr, hI, hc, hm⟩ := hR
  refine u288_531 (l0 := 31) hK hX ⟨hi.r 1 (by decide), u263_0 hK hX (c105 hK hX hc.gc hc.sy hc.2.2.2.2.2.1.1 ⟨fun h1 => absurd trivial h1, fun h1 h2 => ?_, fun h1 h2 M1 x1 f1 => ?_⟩)⟩
  · refine Bk_h (by decide +kernel) (by decide +kernel) (u263_12 (K := K9 K) hK hX.i19 (Bk_v (gb hK hX hI hc hm nx (fun M2 K2 hK2 x2 sc2 m2 nx2 r2 => ?_))))
    refine u288_542 (l0 := 31) hK2 x2 ⟨(hi.fr sc2).r 1 (by decide), o_all.2.1, ?_⟩
    rw [sc2 31 _ (by decide)]
    exact m206 hK2 x2 m2.gm m2.sy m2.2.2.2.2.2.1 ⟨fun g1 => absurd trivial g1, fun g1 g2 M3 x3 b3 => Bk_v (u288_554 (l0 := 31) hK2 x3 ⟨o_all.2.1, u151_0 hK2 x3 (Bk_v (u288_560 (l0 := 31) hK2 x3 ⟨fun _ => ⟨fun _ => nx2 M3 _ _ x3 (r2 M3 _ b3), fun h0 => absurd h0 (by decide)⟩, fun h9 => absurd b3.2.1 h9⟩))⟩), fun g1 g2 => absurd g2 h2⟩
  · refine Bk_v (u263_7 hK x1 ⟨o_all.2.2.1, o_ln, Bk_v (gk hK x1 f1 hI hc hm nx (fun M2 K2 hK2 x2 sc2 m2 nx2 r2 => ?_))⟩)
    refine u288_542 (l0 := 31) hK2 x2 ⟨(hi.fr sc2).r 1 (by decide), o_all.2.1, ?_⟩
    rw [sc2 31 _ (by decide)]
    exact m206 hK2 x2 m2.gm m2.sy m2.2.2.2.2.2.1 ⟨fun g1 => absurd trivial g1, fun g1 g2 => absurd h2 g2, fun g1 g2 M3 x3 f3 z3 => Bk_v (u288_554 (l0 := 31) hK2 x3 ⟨o_all.2.1, u151_0 hK2 x3 (Bk_v (u288_560 (l0 := 31) hK2 x3 ⟨fun _ => ⟨fun h0 => absurd rfl h0, fun _ => ⟨o_all.2.2.1, o_ln, fun _ => nx2 M3 _ _ x3 (r2 M3 f3).1, fun h9 => absurd (by rw [(r2 M3 f3).2]; exact jcmp_s) h9⟩⟩, fun h9 => absurd z3 h9⟩))⟩)⟩
theorem op_587 {l5 l6 : PV} (hK : K.1 = 922) (hX : FX M) (hR : RZ M) (hi : InR M i) (nx : Nx d Q M K i) : Wp (d + 101) 288 587 [vR 31, vR 32, vR 439, vR 921, vI (i : Int), l5, l6, vU] [] M K Q := by
  obtain ⟨nB, B, fp, c, L, s, H, I, Y, rf, ms, wr, hI, hc, hm⟩ := hR
  refine u288_587 (l0 := 31) hK hX ⟨hi.r 1 (by decide), hi.r 2 (by decide), u264_0 hK hX (c106 hK hX hc.gc  ⟨fun h1 => ?_, fun h1 h2 => ?_, fun h1 h2 M1 x1 f1 => ?_⟩)⟩
  · refine Bk_h (by decide +kernel) (by decide +kernel) (u264_13 (K := K9 K) hK hX.i18 (Bk_v (gn hK hX hI hc hm nx (fun M2 K2 hK2 x2 sc2 m2 nx2 r2 => ?_))))
    refine u288_604 (l0 := 31) hK2 x2 ⟨(hi.fr sc2).r 1 (by decide), (hi.fr sc2).r 2 (by decide), o_all.2.1, ?_⟩
    rw [sc2 31 _ (by decide), sc2 31 _ (by decide)]
    exact m210 hK2 x2 m2.gm  ⟨fun g1 M3 x3 b3 => Bk_v (u288_622 (l0 := 31) hK2 x3 ⟨o_all.2.1, u151_0 hK2 x3 (Bk_v (u288_628 (l0 := 31) hK2 x3 ⟨fun _ => ⟨fun _ => nx2 M3 _ _ x3 (r2 M3 _ b3), fun h0 => absurd h0 (by decide)⟩, fun h9 => absurd b3.2.1 h9⟩))⟩), fun g1 => absurd g1 h1, fun g1 => absurd g1 h1⟩
  · refine Bk_h (by decide +kernel) (by decide +kernel) (u264_17 (K := K9 K) hK hX.i19 (Bk_v (gb hK hX hI hc hm nx (fun M2 K2 hK2 x2 sc2 m2 nx2 r2 => ?_))))
    refine u288_604 (l0 := 31) hK2 x2 ⟨(hi.fr sc2).r 1 (by decide), (hi.fr sc2).r 2 (by decide), o_all.2.1, ?_⟩
    rw [sc2 31 _ (by decide), sc2 31 _ (by decide)]
    exact m210 hK2 x2 m2.gm  ⟨fun g1 => absurd h1 g1, fun g1 g2 M3 x3 b3 => Bk_v (u288_622 (l0 := 31) hK2 x3 ⟨o_all.2.1, u151_0 hK2 x3 (Bk_v (u288_628 (l0 := 31) hK2 x3 ⟨fun _ => ⟨fun _ => nx2 M3 _ _ x3 (r2 M3 _ b3), fun h0 => absurd h0 (by decide)⟩, fun h9 => absurd b3.2.1 h9⟩))⟩), fun g1 g2 => absurd g2 h2⟩
  · refine Bk_v (u264_8 hK x1 ⟨o_all.2.2.1, o_ln, Bk_v (gk hK x1 f1 hI hc hm nx (fun M2 K2 hK2 x2 sc2 m2 nx2 r2 => ?_))⟩)
    refine u288_604 (l0 := 31) hK2 x2 ⟨(hi.fr sc2).r 1 (by decide), (hi.fr sc2).r 2 (by decide), o_all.2.1, ?_⟩
    rw [sc2 31 _ (by decide), sc2 31 _ (by decide)]
    exact m210 hK2 x2 m2.gm  ⟨fun g1 => absurd h1 g1, fun g1 g2 => absurd h2 g2, fun g1 g2 M3 x3 f3 z3 => Bk_v (u288_622 (l0 := 31) hK2 x3 ⟨o_all.2.1, u151_0 hK2 x3 (Bk_v (u288_628 (l0 := 31) hK2 x3 ⟨fun _ => ⟨fun h0 => absurd rfl h0, fun _ => ⟨o_all.2.2.1, o_ln, fun _ => nx2 M3 _ _ x3 (r2 M3 f3).1, fun h9 => absurd (by rw [(r2 M3 f3).2]; exact jcmp_s) h9⟩⟩, fun h9 => absurd z3 h9⟩))⟩)⟩
theorem op_723 {l5 l6 : PV} (hK : K.1 = 922) (hX : FX M) (hR : RZ M) (hi : InR M i) (nx : Nx d Q M K i) : Wp (d + 101) 288 723 [vR 31, vR 32, vR 439, vR 921, vI (i : Int), l5, l6, vU] [] M K Q := by
  obtain ⟨nB, B, fp, c, L, s, H, I, Y, rf, ms, wr, hI, hc, hm⟩ := hR
  refine u288_723 (l0 := 31) hK hX ⟨hi.r 1 (by decide), u266_0 hK hX (c108 hK hX hc.gc  ⟨fun h1 => ?_, fun _ h2 => absurd trivial h2, fun h1 h2 M1 x1 f1 => ?_⟩)⟩
  · refine Bk_h (by decide +kernel) (by decide +kernel) (u266_12 (K := K9 K) hK hX.i18 (Bk_v (gn hK hX hI hc hm nx (fun M2 K2 hK2 x2 sc2 m2 nx2 r2 => ?_))))
    refine u288_734 (l0 := 31) hK2 x2 ⟨(hi.fr sc2).r 1 (by decide), o_all.2.1, ?_⟩
    rw [sc2 31 _ (by decide)]
    exact m212 hK2 x2 m2.gm  ⟨fun g1 M3 x3 b3 => Bk_v (u288_746 (l0 := 31) hK2 x3 ⟨o_all.2.1, u151_0 hK2 x3 (Bk_v (u288_752 (l0 := 31) hK2 x3 ⟨fun _ => ⟨fun _ => nx2 M3 _ _ x3 (r2 M3 _ b3), fun h0 => absurd h0 (by decide)⟩, fun h9 => absurd b3.2.1 h9⟩))⟩), fun _ g2 => absurd trivial g2, fun g1 => absurd g1 h1⟩
  · refine Bk_v (u266_7 hK x1 ⟨o_all.2.2.1, o_ln, Bk_v (gk hK x1 f1 hI hc hm nx (fun M2 K2 hK2 x2 sc2 m2 nx2 r2 => ?_))⟩)
    refine u288_734 (l0 := 31) hK2 x2 ⟨(hi.fr sc2).r 1 (by decide), o_all.2.1, ?_⟩
    rw [sc2 31 _ (by decide)]
    exact m212 hK2 x2 m2.gm  ⟨fun g1 => absurd h1 g1, fun _ g2 => absurd trivial g2, fun g1 g2 M3 x3 f3 z3 => Bk_v (u288_746 (l0 := 31) hK2 x3 ⟨o_all.2.1, u151_0 hK2 x3 (Bk_v (u288_752 (l0 := 31) hK2 x3 ⟨fun _ => ⟨fun h0 => absurd rfl h0, fun _ => ⟨o_all.2.2.1, o_ln, fun _ => nx2 M3 _ _ x3 (r2 M3 f3).1, fun h9 => absurd (by rw [(r2 M3 f3).2]; exact jcmp_s) h9⟩⟩, fun h9 => absurd z3 h9⟩))⟩)⟩
end OPS
