theorem u288_23 {d : Nat} {l0 : Nat} {l1 : Nat} {l2 : Nat} {l3 : Nat} {l4 : Int} {l5 : PV} {l6 : PV} {M : Mem} {K : KK} {Q : RR → Mem → KK → Prop} (hK : K.1 = 923) (hX : FX M)  (h : ((w32 ((M 30 0) - (9 : Int))) < l4 → Q (.inl (some (vI (1 : Int)))) M K) ∧ (¬ ((w32 ((M 30 0) - (9 : Int))) < l4) → (0 ≤ l4 ∧ l4 < M 30 0) ∧ ((jand (M 31 (Int.toNat l4)) (63 : Int)) = (0 : Int) → Wp (d + 1) 288 208 [vR 31, vR l1, vR l2, vR l3, vI l4, l5, l6, vU] [] M K Q) ∧ ((jand (M 31 (Int.toNat l4)) (63 : Int)) = (1 : Int) → Wp (d + 1) 288 281 [vR 31, vR l1, vR l2, vR l3, vI l4, l5, l6, vU] [] M K Q) ∧ ((jand (M 31 (Int.toNat l4)) (63 : Int)) = (2 : Int) → Wp (d + 1) 288 337 [vR 31, vR l1, vR l2, vR l3, vI l4, l5, l6, vU] [] M K Q) ∧ ((jand (M 31 (Int.toNat l4)) (63 : Int)) = (3 : Int) → Wp (d + 1) 288 393 [vR 31, vR l1, vR l2, vR l3, vI l4, l5, l6, vU] [] M K Q) ∧ ((jand (M 31 (Int.toNat l4)) (63 : Int)) = (4 : Int) → Wp (d + 1) 288 449 [vR 31, vR l1, vR l2, vR l3, vI l4, l5, l6, vU] [] M K Q) ∧ ((jand (M 31 (Int.toNat l4)) (63 : Int)) = (5 : Int) → Wp (d + 1) 288 505 [vR 31, vR l1, vR l2, vR l3, vI l4, l5, l6, vU] [] M K Q) ∧ ((jand (M 31 (Int.toNat l4)) (63 : Int)) = (6 : Int) → Wp (d + 1) 288 518 [vR 31, vR l1, vR l2, vR l3, vI l4, l5, l6, vU] [] M K Q) ∧ ((jand (M 31 (Int.toNat l4)) (63 : Int)) = (7 : Int) → Wp (d + 1) 288 531 [vR 31, vR l1, vR l2, vR l3, vI l4, l5, l6, vU] [] M K Q) ∧ ((jand (M 31 (Int.toNat l4)) (63 : Int)) = (8 : Int) → Wp (d + 1) 288 587 [vR 31, vR l1, vR l2, vR l3, vI l4, l5, l6, vU] [] M K Q) ∧ ((jand (M 31 (Int.toNat l4)) (63 : Int)) = (9 : Int) → Wp (d + 1) 288 655 [vR 31, vR l1, vR l2, vR l3, vI l4, l5, l6, vU] [] M K Q) ∧ ((jand (M 31 (Int.toNat l4)) (63 : Int)) = (10 : Int) → Wp (d + 1) 288 723 [vR 31, vR l1, vR l2, vR l3, vI l4, l5, l6, vU] [] M K Q) ∧ ((jand (M 31 (Int.toNat l4)) (63 : Int)) = (11 : Int) → Wp (d + 1) 288 779 [vR 31, vR l1, vR l2, vR l3, vI l4, l5, l6, vU] [] M K Q) ∧ ((jand (M 31 (Int.toNat l4)) (63 : Int)) = (12 : Int) → Wp (d + 1) 288 925 [vR 31, vR l1, vR l2, vR l3, vI l4, l5, l6, vU] [] M K Q) ∧ ((jand (M 31 (Int.toNat l4)) (63 : Int)) = (13 : Int) → Wp (d + 1) 288 1000 [vR 31, vR l1, vR l2, vR l3, vI l4, l5, l6, vU] [] M K Q) ∧ ((jand (M 31 (Int.toNat l4)) (63 : Int)) = (14 : Int) → Wp (d + 1) 288 1068 [vR 31, vR l1, vR l2, vR l3, vI l4, l5, l6, vU] [] M K Q) ∧ ((jand (M 31 (Int.toNat l4)) (63 : Int)) = (15 : Int) → Wp (d + 1) 288 1124 [vR 31, vR l1, vR l2, vR l3, vI l4, l5, l6, vU] [] M K Q) ∧ ((jand (M 31 (Int.toNat l4)) (63 : Int)) = (16 : Int) → Wp (d + 1) 288 1180 [vR 31, vR l1, vR l2, vR l3, vI l4, l5, l6, vU] [] M K Q) ∧ ((jand (M 31 (Int.toNat l4)) (63 : Int)) = (17 : Int) → Wp (d + 1) 288 1248 [vR 31, vR l1, vR l2, vR l3, vI l4, l5, l6, vU] [] M K Q) ∧ ((jand (M 31 (Int.toNat l4)) (63 : Int)) = (18 : Int) → Wp (d + 1) 288 1304 [vR 31, vR l1, vR l2, vR l3, vI l4, l5, l6, vU] [] M K Q) ∧ ((jand (M 31 (Int.toNat l4)) (63 : Int)) = (19 : Int) → Wp (d + 1) 288 1372 [vR 31, vR l1, vR l2, vR l3, vI l4, l5, l6, vU] [] M K Q) ∧ ((jand (M 31 (Int.toNat l4)) (63 : Int)) = (20 : Int) → Wp (d + 1) 288 1475 [vR 31, vR l1, vR l2, vR l3, vI l4, l5, l6, vU] [] M K Q) ∧ ((jand (M 31 (Int.toNat l4)) (63 : Int)) = (21 : Int) → Wp (d + 1) 288 1543 [vR 31, vR l1, vR l2, vR l3, vI l4, l5, l6, vU] [] M K Q) ∧ ((jand (M 31 (Int.toNat l4)) (63 : Int)) = (22 : Int) → Wp (d + 1) 288 1611 [vR 31, vR l1, vR l2, vR l3, vI l4, l5, l6, vU] [] M K Q) ∧ ((jand (M 31 (Int.toNat l4)) (63 : Int)) = (23 : Int) → Wp (d + 1) 288 1624 [vR 31, vR l1, vR l2, vR l3, vI l4, l5, l6, vU] [] M K Q) ∧ ((jand (M 31 (Int.toNat l4)) (63 : Int)) = (24 : Int) → Wp (d + 1) 288 1680 [vR 31, vR l1, vR l2, vR l3, vI l4, l5, l6, vU] [] M K Q) ∧ ((jand (M 31 (Int.toNat l4)) (63 : Int)) = (25 : Int) → Wp (d + 1) 288 1736 [vR 31, vR l1, vR l2, vR l3, vI l4, l5, l6, vU] [] M K Q) ∧ ((jand (M 31 (Int.toNat l4)) (63 : Int)) = (26 : Int) → Wp (d + 1) 288 1816 [vR 31, vR l1, vR l2, vR l3, vI l4, l5, l6, vU] [] M K Q) ∧ ((jand (M 31 (Int.toNat l4)) (63 : Int)) = (27 : Int) → Wp (d + 1) 288 1872 [vR 31, vR l1, vR l2, vR l3, vI l4, l5, l6, vU] [] M K Q) ∧ ((jand (M 31 (Int.toNat l4)) (63 : Int)) = (28 : Int) → Wp (d + 1) 288 1928 [vR 31, vR l1, vR l2, vR l3, vI l4, l5, l6, vU] [] M K Q) ∧ ((jand (M 31 (Int.toNat l4)) (63 : Int)) = (29 : Int) → Wp (d + 1) 288 1996 [vR 31, vR l1, vR l2, vR l3, vI l4, l5, l6, vU] [] M K Q) ∧ ((jand (M 31 (Int.toNat l4)) (63 : Int)) = (30 : Int) → Wp (d + 1) 288 2064 [vR 31, vR l1, vR l2, vR l3, vI l4, l5, l6, vU] [] M K Q) ∧ ((jand (M 31 (Int.toNat l4)) (63 : Int)) = (31 : Int) → Wp (d + 1) 288 2120 [vR 31, vR l1, vR l2, vR l3, vI l4, l5, l6, vU] [] M K Q) ∧ ((jand (M 31 (Int.toNat l4)) (63 : Int)) = (32 : Int) → Wp (d + 1) 288 2133 [vR 31, vR l1, vR l2, vR l3, vI l4, l5, l6, vU] [] M K Q) ∧ ((jand (M 31 (Int.toNat l4)) (63 : Int)) = (33 : Int) → Wp (d + 1) 288 2237 [vR 31, vR l1, vR l2, vR l3, vI l4, l5, l6, vU] [] M K Q) ∧ ((jand (M 31 (Int.toNat l4)) (63 : Int)) = (34 : Int) → Wp (d + 1) 288 2369 [vR 31, vR l1, vR l2, vR l3, vI l4, l5, l6, vU] [] M K Q) ∧ ((jand (M 31 (Int.toNat l4)) (63 : Int)) = (35 : Int) → Wp (d + 1) 288 2382 [vR 31, vR l1, vR l2, vR l3, vI l4, l5, l6, vU] [] M K Q) ∧ ((jand (M 31 (Int.toNat l4)) (63 : Int)) = (36 : Int) → Wp (d + 1) 288 2395 [vR 31, vR l1, vR l2, vR l3, vI l4, l5, l6, vU] [] M K Q) ∧ ((jand (M 31 (Int.toNat l4)) (63 : Int)) = (37 : Int) → Wp (d + 1) 288 2420 [vR 31, vR l1, vR l2, vR l3, vI l4, l5, l6, vU] [] M K Q) ∧ ((jand (M 31 (Int.toNat l4)) (63 : Int)) < (0 : Int) ∨ (37 : Int) < (jand (M 31 (Int.toNat l4)) (63 : Int)) → Wp (d + 1) 288 2445 [vR 31, vR l1, vR l2, vR l3, vI l4, l5, l6, vU] [] M K Q))) : Wp (d + 1) 288 23 [vR 31, vR l1, vR l2, vR l3, vI l4, l5, l6, vU] [] M K Q := by
  refine r_iload c288_23 rfl ?_
  refine r_aload_n c288_25 rfl ?_
  refine r_alenx c288_26 ?_
  refine r_bipush c288_27 ?_
  refine r_isub c288_29 ?_
  refine r_icmpP (P := (w32 ((M 30 0) - (9 : Int))) < l4) c288_30 rfl (fun hc1 => ?_) (fun hc1 => ?_)
  · replace h := h.1 hc1
    refine r_iconst c288_2451 ?_
    exact r_iret c288_2452 (by decide) h
  · replace h := h.2 hc1
    refine r_aload_n c288_33 rfl ?_
    refine r_iload c288_34 rfl ?_
    obtain ⟨s2, h⟩ := h
    refine r_iax c288_36 s2 ?_
    refine r_bipush c288_37 ?_
    refine r_iand c288_39 ?_
    refine r_tsw c288_40 ?_
    by_cases hv0 : (jand (M 31 (Int.toNat l4)) (63 : Int)) = (0 : Int)
    · rw [show tsw 40 2405 0 37 #[168, 241, 297, 353, 409, 465, 478, 491, 547, 615, 683, 739, 885, 960, 1028, 1084, 1140, 1208, 1264, 1332, 1435, 1503, 1571, 1584, 1640, 1696, 1776, 1832, 1888, 1956, 2024, 2080, 2093, 2197, 2329, 2342, 2355, 2380] (jand (M 31 (Int.toNat l4)) (63 : Int)) = 208 from by rw [hv0]; decide]
      replace h := h.1 hv0
      exact h
    by_cases hv1 : (jand (M 31 (Int.toNat l4)) (63 : Int)) = (1 : Int)
    · rw [show tsw 40 2405 0 37 #[168, 241, 297, 353, 409, 465, 478, 491, 547, 615, 683, 739, 885, 960, 1028, 1084, 1140, 1208, 1264, 1332, 1435, 1503, 1571, 1584, 1640, 1696, 1776, 1832, 1888, 1956, 2024, 2080, 2093, 2197, 2329, 2342, 2355, 2380] (jand (M 31 (Int.toNat l4)) (63 : Int)) = 281 from by rw [hv1]; decide]
      replace h := h.2.1 hv1
      exact h
    by_cases hv2 : (jand (M 31 (Int.toNat l4)) (63 : Int)) = (2 : Int)
    · rw [show tsw 40 2405 0 37 #[168, 241, 297, 353, 409, 465, 478, 491, 547, 615, 683, 739, 885, 960, 1028, 1084, 1140, 1208, 1264, 1332, 1435, 1503, 1571, 1584, 1640, 1696, 1776, 1832, 1888, 1956, 2024, 2080, 2093, 2197, 2329, 2342, 2355, 2380] (jand (M 31 (Int.toNat l4)) (63 : Int)) = 337 from by rw [hv2]; decide]
      replace h := h.2.2.1 hv2
      exact h
    by_cases hv3 : (jand (M 31 (Int.toNat l4)) (63 : Int)) = (3 : Int)
    · rw [show tsw 40 2405 0 37 #[168, 241, 297, 353, 409, 465, 478, 491, 547, 615, 683, 739, 885, 960, 1028, 1084, 1140, 1208, 1264, 1332, 1435, 1503, 1571, 1584, 1640, 1696, 1776, 1832, 1888, 1956, 2024, 2080, 2093, 2197, 2329, 2342, 2355, 2380] (jand (M 31 (Int.toNat l4)) (63 : Int)) = 393 from by rw [hv3]; decide]
      replace h := h.2.2.2.1 hv3
      exact h
    by_cases hv4 : (jand (M 31 (Int.toNat l4)) (63 : Int)) = (4 : Int)
    · rw [show tsw 40 2405 0 37 #[168, 241, 297, 353, 409, 465, 478, 491, 547, 615, 683, 739, 885, 960, 1028, 1084, 1140, 1208, 1264, 1332, 1435, 1503, 1571, 1584, 1640, 1696, 1776, 1832, 1888, 1956, 2024, 2080, 2093, 2197, 2329, 2342, 2355, 2380] (jand (M 31 (Int.toNat l4)) (63 : Int)) = 449 from by rw [hv4]; decide]
      replace h := h.2.2.2.2.1 hv4
      exact h
    by_cases hv5 : (jand (M 31 (Int.toNat l4)) (63 : Int)) = (5 : Int)
    · rw [show tsw 40 2405 0 37 #[168, 241, 297, 353, 409, 465, 478, 491, 547, 615, 683, 739, 885, 960, 1028, 1084, 1140, 1208, 1264, 1332, 1435, 1503, 1571, 1584, 1640, 1696, 1776, 1832, 1888, 1956, 2024, 2080, 2093, 2197, 2329, 2342, 2355, 2380] (jand (M 31 (Int.toNat l4)) (63 : Int)) = 505 from by rw [hv5]; decide]
      replace h := h.2.2.2.2.2.1 hv5
      exact h
    by_cases hv6 : (jand (M 31 (Int.toNat l4)) (63 : Int)) = (6 : Int)
    · rw [show tsw 40 2405 0 37 #[168, 241, 297, 353, 409, 465, 478, 491, 547, 615, 683, 739, 885, 960, 1028, 1084, 1140, 1208, 1264, 1332, 1435, 1503, 1571, 1584, 1640, 1696, 1776, 1832, 1888, 1956, 2024, 2080, 2093, 2197, 2329, 2342, 2355, 2380] (jand (M 31 (Int.toNat l4)) (63 : Int)) = 518 from by rw [hv6]; decide]
      replace h := h.2.2.2.2.2.2.1 hv6
      exact h
    by_cases hv7 : (jand (M 31 (Int.toNat l4)) (63 : Int)) = (7 : Int)
    · rw [show tsw 40 2405 0 37 #[168, 241, 297, 353, 409, 465, 478, 491, 547, 615, 683, 739, 885, 960, 1028, 1084, 1140, 1208, 1264, 1332, 1435, 1503, 1571, 1584, 1640, 1696, 1776, 1832, 1888, 1956, 2024, 2080, 2093, 2197, 2329, 2342, 2355, 2380] (jand (M 31 (Int.toNat l4)) (63 : Int)) = 531 from by rw [hv7]; decide]
      replace h := h.2.2.2.2.2.2.2.1 hv7
      exact h
    by_cases hv8 : (jand (M 31 (Int.toNat l4)) (63 : Int)) = (8 : Int)
    · rw [show tsw 40 2405 0 37 #[168, 241, 297, 353, 409, 465, 478, 491, 547, 615, 683, 739, 885, 960, 1028, 1084, 1140, 1208, 1264, 1332, 1435, 1503, 1571, 1584, 1640, 1696, 1776, 1832, 1888, 1956, 2024, 2080, 2093, 2197, 2329, 2342, 2355, 2380] (jand (M 31 (Int.toNat l4)) (63 : Int)) = 587 from by rw [hv8]; decide]
      replace h := h.2.2.2.2.2.2.2.2.1 hv8
      exact h
    by_cases hv9 : (jand (M 31 (Int.toNat l4)) (63 : Int)) = (9 : Int)
    · rw [show tsw 40 2405 0 37 #[168, 241, 297, 353, 409, 465, 478, 491, 547, 615, 683, 739, 885, 960, 1028, 1084, 1140, 1208, 1264, 1332, 1435, 1503, 1571, 1584, 1640, 1696, 1776, 1832, 1888, 1956, 2024, 2080, 2093, 2197, 2329, 2342, 2355, 2380] (jand (M 31 (Int.toNat l4)) (63 : Int)) = 655 from by rw [hv9]; decide]
      replace h := h.2.2.2.2.2.2.2.2.2.1 hv9
      exact h
    by_cases hv10 : (jand (M 31 (Int.toNat l4)) (63 : Int)) = (10 : Int)
    · rw [show tsw 40 2405 0 37 #[168, 241, 297, 353, 409, 465, 478, 491, 547, 615, 683, 739, 885, 960, 1028, 1084, 1140, 1208, 1264, 1332, 1435, 1503, 1571, 1584, 1640, 1696, 1776, 1832, 1888, 1956, 2024, 2080, 2093, 2197, 2329, 2342, 2355, 2380] (jand (M 31 (Int.toNat l4)) (63 : Int)) = 723 from by rw [hv10]; decide]
      replace h := h.2.2.2.2.2.2.2.2.2.2.1 hv10
      exact h
    by_cases hv11 : (jand (M 31 (Int.toNat l4)) (63 : Int)) = (11 : Int)
    · rw [show tsw 40 2405 0 37 #[168, 241, 297, 353, 409, 465, 478, 491, 547, 615, 683, 739, 885, 960, 1028, 1084, 1140, 1208, 1264, 1332, 1435, 1503, 1571, 1584, 1640, 1696, 1776, 1832, 1888, 1956, 2024, 2080, 2093, 2197, 2329, 2342, 2355, 2380] (jand (M 31 (Int.toNat l4)) (63 : Int)) = 779 from by rw [hv11]; decide]
      replace h := h.2.2.2.2.2.2.2.2.2.2.2.1 hv11
      exact h
    by_cases hv12 : (jand (M 31 (Int.toNat l4)) (63 : Int)) = (12 : Int)
    · rw [show tsw 40 2405 0 37 #[168, 241, 297, 353, 409, 465, 478, 491, 547, 615, 683, 739, 885, 960, 1028, 1084, 1140, 1208, 1264, 1332, 1435, 1503, 1571, 1584, 1640, 1696, 1776, 1832, 1888, 1956, 2024, 2080, 2093, 2197, 2329, 2342, 2355, 2380] (jand (M 31 (Int.toNat l4)) (63 : Int)) = 925 from by rw [hv12]; decide]
      replace h := h.2.2.2.2.2.2.2.2.2.2.2.2.1 hv12
      exact h
    by_cases hv13 : (jand (M 31 (Int.toNat l4)) (63 : Int)) = (13 : Int)
    · rw [show tsw 40 2405 0 37 #[168, 241, 297, 353, 409, 465, 478, 491, 547, 615, 683, 739, 885, 960, 1028, 1084, 1140, 1208, 1264, 1332, 1435, 1503, 1571, 1584, 1640, 1696, 1776, 1832, 1888, 1956, 2024, 2080, 2093, 2197, 2329, 2342, 2355, 2380] (jand (M 31 (Int.toNat l4)) (63 : Int)) = 1000 from by rw [hv13]; decide]
      replace h := h.2.2.2.2.2.2.2.2.2.2.2.2.2.1 hv13
      exact h
    by_cases hv14 : (jand (M 31 (Int.toNat l4)) (63 : Int)) = (14 : Int)
    · rw [show tsw 40 2405 0 37 #[168, 241, 297, 353, 409, 465, 478, 491, 547, 615, 683, 739, 885, 960, 1028, 1084, 1140, 1208, 1264, 1332, 1435, 1503, 1571, 1584, 1640, 1696, 1776, 1832, 1888, 1956, 2024, 2080, 2093, 2197, 2329, 2342, 2355, 2380] (jand (M 31 (Int.toNat l4)) (63 : Int)) = 1068 from by rw [hv14]; decide]
      replace h := h.2.2.2.2.2.2.2.2.2.2.2.2.2.2.1 hv14
      exact h
    by_cases hv15 : (jand (M 31 (Int.toNat l4)) (63 : Int)) = (15 : Int)
    · rw [show tsw 40 2405 0 37 #[168, 241, 297, 353, 409, 465, 478, 491, 547, 615, 683, 739, 885, 960, 1028, 1084, 1140, 1208, 1264, 1332, 1435, 1503, 1571, 1584, 1640, 1696, 1776, 1832, 1888, 1956, 2024, 2080, 2093, 2197, 2329, 2342, 2355, 2380] (jand (M 31 (Int.toNat l4)) (63 : Int)) = 1124 from by rw [hv15]; decide]
      replace h := h.2.2.2.2.2.2.2.2.2.2.2.2.2.2.2.1 hv15
      exact h
    by_cases hv16 : (jand (M 31 (Int.toNat l4)) (63 : Int)) = (16 : Int)
    · rw [show tsw 40 2405 0 37 #[168, 241, 297, 353, 409, 465, 478, 491, 547, 615, 683, 739, 885, 960, 1028, 1084, 1140, 1208, 1264, 1332, 1435, 1503, 1571, 1584, 1640, 1696, 1776, 1832, 1888, 1956, 2024, 2080, 2093, 2197, 2329, 2342, 2355, 2380] (jand (M 31 (Int.toNat l4)) (63 : Int)) = 1180 from by rw [hv16]; decide]
      replace h := h.2.2.2.2.2.2.2.2.2.2.2.2.2.2.2.2.1 hv16
      exact h
    by_cases hv17 : (jand (M 31 (Int.toNat l4)) (63 : Int)) = (17 : Int)
    · rw [show tsw 40 2405 0 37 #[168, 241, 297, 353, 409, 465, 478, 491, 547, 615, 683, 739, 885, 960, 1028, 1084, 1140, 1208, 1264, 1332, 1435, 1503, 1571, 1584, 1640, 1696, 1776, 1832, 1888, 1956, 2024, 2080, 2093, 2197, 2329, 2342, 2355, 2380] (jand (M 31 (Int.toNat l4)) (63 : Int)) = 1248 from by rw [hv17]; decide]
      replace h := h.2.2.2.2.2.2.2.2.2.2.2.2.2.2.2.2.2.1 hv17
      exact h
    by_cases hv18 : (jand (M 31 (Int.toNat l4)) (63 : Int)) = (18 : Int)
    · rw [show tsw 40 2405 0 37 #[168, 241, 297, 353, 409, 465, 478, 491, 547, 615, 683, 739, 885, 960, 1028, 1084, 1140, 1208, 1264, 1332, 1435, 1503, 1571, 1584, 1640, 1696, 1776, 1832, 1888, 1956, 2024, 2080, 2093, 2197, 2329, 2342, 2355, 2380] (jand (M 31 (Int.toNat l4)) (63 : Int)) = 1304 from by rw [hv18]; decide]
      replace h := h.2.2.2.2.2.2.2.2.2.2.2.2.2.2.2.2.2.2.1 hv18
      exact h
    by_cases hv19 : (jand (M 31 (Int.toNat l4)) (63 : Int)) = (19 : Int)
    · rw [show tsw 40 2405 0 37 #[168, 241, 297, 353, 409, 465, 478, 491, 547, 615, 683, 739, 885, 960, 1028, 1084, 1140, 1208, 1264, 1332, 1435, 1503, 1571, 1584, 1640, 1696, 1776, 1832, 1888, 1956, 2024, 2080, 2093, 2197, 2329, 2342, 2355, 2380] (jand (M 31 (Int.toNat l4)) (63 : Int)) = 1372 from by rw [hv19]; decide]
      replace h := h.2.2.2.2.2.2.2.2.2.2.2.2.2.2.2.2.2.2.2.1 hv19
      exact h
    by_cases hv20 : (jand (M 31 (Int.toNat l4)) (63 : Int)) = (20 : Int)
    · rw [show tsw 40 2405 0 37 #[168, 241, 297, 353, 409, 465, 478, 491, 547, 615, 683, 739, 885, 960, 1028, 1084, 1140, 1208, 1264, 1332, 1435, 1503, 1571, 1584, 1640, 1696, 1776, 1832, 1888, 1956, 2024, 2080, 2093, 2197, 2329, 2342, 2355, 2380] (jand (M 31 (Int.toNat l4)) (63 : Int)) = 1475 from by rw [hv20]; decide]
      replace h := h.2.2.2.2.2.2.2.2.2.2.2.2.2.2.2.2.2.2.2.2.1 hv20
      exact h
    by_cases hv21 : (jand (M 31 (Int.toNat l4)) (63 : Int)) = (21 : Int)
    · rw [show tsw 40 2405 0 37 #[168, 241, 297, 353, 409, 465, 478, 491, 547, 615, 683, 739, 885, 960, 1028, 1084, 1140, 1208, 1264, 1332, 1435, 1503, 1571, 1584, 1640, 1696, 1776, 1832, 1888, 1956, 2024, 2080, 2093, 2197, 2329, 2342, 2355, 2380] (jand (M 31 (Int.toNat l4)) (63 : Int)) = 1543 from by rw [hv21]; decide]
      replace h := h.2.2.2.2.2.2.2.2.2.2.2.2.2.2.2.2.2.2.2.2.2.1 hv21
      exact h
    by_cases hv22 : (jand (M 31 (Int.toNat l4)) (63 : Int)) = (22 : Int)
    · rw [show tsw 40 2405 0 37 #[168, 241, 297, 353, 409, 465, 478, 491, 547, 615, 683, 739, 885, 960, 1028, 1084, 1140, 1208, 1264, 1332, 1435, 1503, 1571, 1584, 1640, 1696, 1776, 1832, 1888, 1956, 2024, 2080, 2093, 2197, 2329, 2342, 2355, 2380] (jand (M 31 (Int.toNat l4)) (63 : Int)) = 1611 from by rw [hv22]; decide]
      replace h := h.2.2.2.2.2.2.2.2.2.2.2.2.2.2.2.2.2.2.2.2.2.2.1 hv22
      exact h
    by_cases hv23 : (jand (M 31 (Int.toNat l4)) (63 : Int)) = (23 : Int)
    · rw [show tsw 40 2405 0 37 #[168, 241, 297, 353, 409, 465, 478, 491, 547, 615, 683, 739, 885, 960, 1028, 1084, 1140, 1208, 1264, 1332, 1435, 1503, 1571, 1584, 1640, 1696, 1776, 1832, 1888, 1956, 2024, 2080, 2093, 2197, 2329, 2342, 2355, 2380] (jand (M 31 (Int.toNat l4)) (63 : Int)) = 1624 from by rw [hv23]; decide]
      replace h := h.2.2.2.2.2.2.2.2.2.2.2.2.2.2.2.2.2.2.2.2.2.2.2.1 hv23
      exact h
    by_cases hv24 : (jand (M 31 (Int.toNat l4)) (63 : Int)) = (24 : Int)
    · rw [show tsw 40 2405 0 37 #[168, 241, 297, 353, 409, 465, 478, 491, 547, 615, 683, 739, 885, 960, 1028, 1084, 1140, 1208, 1264, 1332, 1435, 1503, 1571, 1584, 1640, 1696, 1776, 1832, 1888, 1956, 2024, 2080, 2093, 2197, 2329, 2342, 2355, 2380] (jand (M 31 (Int.toNat l4)) (63 : Int)) = 1680 from by rw [hv24]; decide]
      replace h := h.2.2.2.2.2.2.2.2.2.2.2.2.2.2.2.2.2.2.2.2.2.2.2.2.1 hv24
      exact h
    by_cases hv25 : (jand (M 31 (Int.toNat l4)) (63 : Int)) = (25 : Int)
    · rw [show tsw 40 2405 0 37 #[168, 241, 297, 353, 409, 465, 478, 491, 547, 615, 683, 739, 885, 960, 1028, 1084, 1140, 1208, 1264, 1332, 1435, 1503, 1571, 1584, 1640, 1696, 1776, 1832, 1888, 1956, 2024, 2080, 2093, 2197, 2329, 2342, 2355, 2380] (jand (M 31 (Int.toNat l4)) (63 : Int)) = 1736 from by rw [hv25]; decide]
      replace h := h.2.2.2.2.2.2.2.2.2.2.2.2.2.2.2.2.2.2.2.2.2.2.2.2.2.1 hv25
      exact h
    by_cases hv26 : (jand (M 31 (Int.toNat l4)) (63 : Int)) = (26 : Int)
    · rw [show tsw 40 2405 0 37 #[168, 241, 297, 353, 409, 465, 478, 491, 547, 615, 683, 739, 885, 960, 1028, 1084, 1140, 1208, 1264, 1332, 1435, 1503, 1571, 1584, 1640, 1696, 1776, 1832, 1888, 1956, 2024, 2080, 2093, 2197, 2329, 2342, 2355, 2380] (jand (M 31 (Int.toNat l4)) (63 : Int)) = 1816 from by rw [hv26]; decide]
      replace h := h.2.2.2.2.2.2.2.2.2.2.2.2.2.2.2.2.2.2.2.2.2.2.2.2.2.2.1 hv26
      exact h
    by_cases hv27 : (jand (M 31 (Int.toNat l4)) (63 : Int)) = (27 : Int)
    · rw [show tsw 40 2405 0 37 #[168, 241, 297, 353, 409, 465, 478, 491, 547, 615, 683, 739, 885, 960, 1028, 1084, 1140, 1208, 1264, 1332, 1435, 1503, 1571, 1584, 1640, 1696, 1776, 1832, 1888, 1956, 2024, 2080, 2093, 2197, 2329, 2342, 2355, 2380] (jand (M 31 (Int.toNat l4)) (63 : Int)) = 1872 from by rw [hv27]; decide]
      replace h := h.2.2.2.2.2.2.2.2.2.2.2.2.2.2.2.2.2.2.2.2.2.2.2.2.2.2.2.1 hv27
      exact h
    by_cases hv28 : (jand (M 31 (Int.toNat l4)) (63 : Int)) = (28 : Int)
    · rw [show tsw 40 2405 0 37 #[168, 241, 297, 353, 409, 465, 478, 491, 547, 615, 683, 739, 885, 960, 1028, 1084, 1140, 1208, 1264, 1332, 1435, 1503, 1571, 1584, 1640, 1696, 1776, 1832, 1888, 1956, 2024, 2080, 2093, 2197, 2329, 2342, 2355, 2380] (jand (M 31 (Int.toNat l4)) (63 : Int)) = 1928 from by rw [hv28]; decide]
      replace h := h.2.2.2.2.2.2.2.2.2.2.2.2.2.2.2.2.2.2.2.2.2.2.2.2.2.2.2.2.1 hv28
      exact h
    by_cases hv29 : (jand (M 31 (Int.toNat l4)) (63 : Int)) = (29 : Int)
    · rw [show tsw 40 2405 0 37 #[168, 241, 297, 353, 409, 465, 478, 491, 547, 615, 683, 739, 885, 960, 1028, 1084, 1140, 1208, 1264, 1332, 1435, 1503, 1571, 1584, 1640, 1696, 1776, 1832, 1888, 1956, 2024, 2080, 2093, 2197, 2329, 2342, 2355, 2380] (jand (M 31 (Int.toNat l4)) (63 : Int)) = 1996 from by rw [hv29]; decide]
      replace h := h.2.2.2.2.2.2.2.2.2.2.2.2.2.2.2.2.2.2.2.2.2.2.2.2.2.2.2.2.2.1 hv29
      exact h
    by_cases hv30 : (jand (M 31 (Int.toNat l4)) (63 : Int)) = (30 : Int)
    · rw [show tsw 40 2405 0 37 #[168, 241, 297, 353, 409, 465, 478, 491, 547, 615, 683, 739, 885, 960, 1028, 1084, 1140, 1208, 1264, 1332, 1435, 1503, 1571, 1584, 1640, 1696, 1776, 1832, 1888, 1956, 2024, 2080, 2093, 2197, 2329, 2342, 2355, 2380] (jand (M 31 (Int.toNat l4)) (63 : Int)) = 2064 from by rw [hv30]; decide]
      replace h := h.2.2.2.2.2.2.2.2.2.2.2.2.2.2.2.2.2.2.2.2.2.2.2.2.2.2.2.2.2.2.1 hv30
      exact h
    by_cases hv31 : (jand (M 31 (Int.toNat l4)) (63 : Int)) = (31 : Int)
    · rw [show tsw 40 2405 0 37 #[168, 241, 297, 353, 409, 465, 478, 491, 547, 615, 683, 739, 885, 960, 1028, 1084, 1140, 1208, 1264, 1332, 1435, 1503, 1571, 1584, 1640, 1696, 1776, 1832, 1888, 1956, 2024, 2080, 2093, 2197, 2329, 2342, 2355, 2380] (jand (M 31 (Int.toNat l4)) (63 : Int)) = 2120 from by rw [hv31]; decide]
      replace h := h.2.2.2.2.2.2.2.2.2.2.2.2.2.2.2.2.2.2.2.2.2.2.2.2.2.2.2.2.2.2.2.1 hv31
      exact h
    by_cases hv32 : (jand (M 31 (Int.toNat l4)) (63 : Int)) = (32 : Int)
    · rw [show tsw 40 2405 0 37 #[168, 241, 297, 353, 409, 465, 478, 491, 547, 615, 683, 739, 885, 960, 1028, 1084, 1140, 1208, 1264, 1332, 1435, 1503, 1571, 1584, 1640, 1696, 1776, 1832, 1888, 1956, 2024, 2080, 2093, 2197, 2329, 2342, 2355, 2380] (jand (M 31 (Int.toNat l4)) (63 : Int)) = 2133 from by rw [hv32]; decide]
      replace h := h.2.2.2.2.2.2.2.2.2.2.2.2.2.2.2.2.2.2.2.2.2.2.2.2.2.2.2.2.2.2.2.2.1 hv32
      exact h
    by_cases hv33 : (jand (M 31 (Int.toNat l4)) (63 : Int)) = (33 : Int)
    · rw [show tsw 40 2405 0 37 #[168, 241, 297, 353, 409, 465, 478, 491, 547, 615, 683, 739, 885, 960, 1028, 1084, 1140, 1208, 1264, 1332, 1435, 1503, 1571, 1584, 1640, 1696, 1776, 1832, 1888, 1956, 2024, 2080, 2093, 2197, 2329, 2342, 2355, 2380] (jand (M 31 (Int.toNat l4)) (63 : Int)) = 2237 from by rw [hv33]; decide]
      replace h := h.2.2.2.2.2.2.2.2.2.2.2.2.2.2.2.2.2.2.2.2.2.2.2.2.2.2.2.2.2.2.2.2.2.1 hv33
      exact h
    by_cases hv34 : (jand (M 31 (Int.toNat l4)) (63 : Int)) = (34 : Int)
    · rw [show tsw 40 2405 0 37 #[168, 241, 297, 353, 409, 465, 478, 491, 547, 615, 683, 739, 885, 960, 1028, 1084, 1140, 1208, 1264, 1332, 1435, 1503, 1571, 1584, 1640, 1696, 1776, 1832, 1888, 1956, 2024, 2080, 2093, 2197, 2329, 2342, 2355, 2380] (jand (M 31 (Int.toNat l4)) (63 : Int)) = 2369 from by rw [hv34]; decide]
      replace h := h.2.2.2.2.2.2.2.2.2.2.2.2.2.2.2.2.2.2.2.2.2.2.2.2.2.2.2.2.2.2.2.2.2.2.1 hv34
      exact h
    by_cases hv35 : (jand (M 31 (Int.toNat l4)) (63 : Int)) = (35 : Int)
    · rw [show tsw 40 2405 0 37 #[168, 241, 297, 353, 409, 465, 478, 491, 547, 615, 683, 739, 885, 960, 1028, 1084, 1140, 1208, 1264, 1332, 1435, 1503, 1571, 1584, 1640, 1696, 1776, 1832, 1888, 1956, 2024, 2080, 2093, 2197, 2329, 2342, 2355, 2380] (jand (M 31 (Int.toNat l4)) (63 : Int)) = 2382 from by rw [hv35]; decide]
      replace h := h.2.2.2.2.2.2.2.2.2.2.2.2.2.2.2.2.2.2.2.2.2.2.2.2.2.2.2.2.2.2.2.2.2.2.2.1 hv35
      exact h
    by_cases hv36 : (jand (M 31 (Int.toNat l4)) (63 : Int)) = (36 : Int)
    · rw [show tsw 40 2405 0 37 #[168, 241, 297, 353, 409, 465, 478, 491, 547, 615, 683, 739, 885, 960, 1028, 1084, 1140, 1208, 1264, 1332, 1435, 1503, 1571, 1584, 1640, 1696, 1776, 1832, 1888, 1956, 2024, 2080, 2093, 2197, 2329, 2342, 2355, 2380] (jand (M 31 (Int.toNat l4)) (63 : Int)) = 2395 from by rw [hv36]; decide]
      replace h := h.2.2.2.2.2.2.2.2.2.2.2.2.2.2.2.2.2.2.2.2.2.2.2.2.2.2.2.2.2.2.2.2.2.2.2.2.1 hv36
      exact h
    by_cases hv37 : (jand (M 31 (Int.toNat l4)) (63 : Int)) = (37 : Int)
    · rw [show tsw 40 2405 0 37 #[168, 241, 297, 353, 409, 465, 478, 491, 547, 615, 683, 739, 885, 960, 1028, 1084, 1140, 1208, 1264, 1332, 1435, 1503, 1571, 1584, 1640, 1696, 1776, 1832, 1888, 1956, 2024, 2080, 2093, 2197, 2329, 2342, 2355, 2380] (jand (M 31 (Int.toNat l4)) (63 : Int)) = 2420 from by rw [hv37]; decide]
      replace h := h.2.2.2.2.2.2.2.2.2.2.2.2.2.2.2.2.2.2.2.2.2.2.2.2.2.2.2.2.2.2.2.2.2.2.2.2.2.1 hv37
      exact h
    have hvd : (jand (M 31 (Int.toNat l4)) (63 : Int)) < (0 : Int) ∨ (37 : Int) < (jand (M 31 (Int.toNat l4)) (63 : Int)) := by omega
    rw [show tsw 40 2405 0 37 #[168, 241, 297, 353, 409, 465, 478, 491, 547, 615, 683, 739, 885, 960, 1028, 1084, 1140, 1208, 1264, 1332, 1435, 1503, 1571, 1584, 1640, 1696, 1776, 1832, 1888, 1956, 2024, 2080, 2093, 2197, 2329, 2342, 2355, 2380] (jand (M 31 (Int.toNat l4)) (63 : Int)) = 2445 from by unfold tsw; rw [if_pos hvd]; decide]
    replace h := h.2.2.2.2.2.2.2.2.2.2.2.2.2.2.2.2.2.2.2.2.2.2.2.2.2.2.2.2.2.2.2.2.2.2.2.2.2.2 hvd
    exact h
theorem u288_208 {d : Nat} {l0 : Nat} {l1 : Nat} {l2 : Nat} {l3 : Nat} {l4 : Int} {l5 : PV} {l6 : PV} {M : Mem} {K : KK} {Q : RR → Mem → KK → Prop} (hK : K.1 = 923) (hX : FX M)  (h : (0 ≤ (w32 (l4 + (1 : Int))) ∧ (w32 (l4 + (1 : Int))) < M 30 0) ∧ (0 ≤ (w32 (l4 + (2 : Int))) ∧ (w32 (l4 + (2 : Int))) < M 30 0) ∧ (0 ≤ (w32 (l4 + (3 : Int))) ∧ (w32 (l4 + (3 : Int))) < M 30 0) ∧ (0 ≤ (w32 (l4 + (4 : Int))) ∧ (w32 (l4 + (4 : Int))) < M 30 0) ∧ (0 ≤ (w32 (l4 + (5 : Int))) ∧ (w32 (l4 + (5 : Int))) < M 30 0) ∧ isO 923 l1 11 = true ∧ Wm d 98 [vR l1, vI (M 31 (Int.toNat (w32 (l4 + (1 : Int))))), vI (M 31 (Int.toNat (w32 (l4 + (2 : Int))))), vI (M 31 (Int.toNat (w32 (l4 + (3 : Int))))), vI (M 31 (Int.toNat (w32 (l4 + (4 : Int))))), vI (M 31 (Int.toNat (w32 (l4 + (5 : Int)))))] M K (Bk d 288 239 242 98 [vR 31, vR l1, vR l2, vR l3, vI l4, l5, l6, vU] [] Q)) : Wp (d + 1) 288 208 [vR 31, vR l1, vR l2, vR l3, vI l4, l5, l6, vU] [] M K Q := by
  refine r_aload_n c288_208 rfl ?_
  refine r_aload_n c288_209 rfl ?_
  refine r_iload c288_210 rfl ?_
  refine r_iconst c288_212 ?_
  refine r_iadd c288_213 ?_
  obtain ⟨s1, h⟩ := h
  refine r_iax c288_214 s1 ?_
  refine r_aload_n c288_215 rfl ?_
  refine r_iload c288_216 rfl ?_
  refine r_iconst c288_218 ?_
  refine r_iadd c288_219 ?_
  obtain ⟨s2, h⟩ := h
  refine r_iax c288_220 s2 ?_
  refine r_aload_n c288_221 rfl ?_
  refine r_iload c288_222 rfl ?_
  refine r_iconst c288_224 ?_
  refine r_iadd c288_225 ?_
  obtain ⟨s3, h⟩ := h
  refine r_iax c288_226 s3 ?_
  refine r_aload_n c288_227 rfl ?_
  refine r_iload c288_228 rfl ?_
  refine r_iconst c288_230 ?_
  refine r_iadd c288_231 ?_
  obtain ⟨s4, h⟩ := h
  refine r_iax c288_232 s4 ?_
  refine r_aload_n c288_233 rfl ?_
  refine r_iload c288_234 rfl ?_
  refine r_iconst c288_236 ?_
  refine r_iadd c288_237 ?_
  obtain ⟨s5, h⟩ := h
  refine r_iax c288_238 s5 ?_
  obtain ⟨o6, h⟩ := h
  exact r_call c288_239 rfl rfl (Nat.le_of_ble_eq_true rfl) (okc_r rfl rfl (oK hK o6)) h
theorem u288_242 {d : Nat} {l0 : Nat} {l1 : Nat} {l2 : Nat} {l3 : Nat} {l4 : Int} {l5 : PV} {l6 : PV} {t0 : Int} {M : Mem} {K : KK} {Q : RR → Mem → KK → Prop} (hK : K.1 = 923) (hX : FX M)  (h : (0 ≤ (w32 (l4 + (1 : Int))) ∧ (w32 (l4 + (1 : Int))) < M 30 0) ∧ (0 ≤ (w32 (l4 + (2 : Int))) ∧ (w32 (l4 + (2 : Int))) < M 30 0) ∧ (0 ≤ (w32 (l4 + (3 : Int))) ∧ (w32 (l4 + (3 : Int))) < M 30 0) ∧ (0 ≤ (w32 (l4 + (4 : Int))) ∧ (w32 (l4 + (4 : Int))) < M 30 0) ∧ (0 ≤ (w32 (l4 + (5 : Int))) ∧ (w32 (l4 + (5 : Int))) < M 30 0) ∧ isO 923 l2 12 = true ∧ Wm d 157 [vR l2, vI (M 31 (Int.toNat (w32 (l4 + (1 : Int))))), vI (M 31 (Int.toNat (w32 (l4 + (2 : Int))))), vI (M 31 (Int.toNat (w32 (l4 + (3 : Int))))), vI (M 31 (Int.toNat (w32 (l4 + (4 : Int))))), vI (M 31 (Int.toNat (w32 (l4 + (5 : Int)))))] M K (Bk d 288 273 276 157 [vR 31, vR l1, vR l2, vR l3, vI l4, l5, l6, vU] [vI t0] Q)) : Wp (d + 1) 288 242 [vR 31, vR l1, vR l2, vR l3, vI l4, l5, l6, vU] [vI t0] M K Q := by
  refine r_aload_n c288_242 rfl ?_
  refine r_aload_n c288_243 rfl ?_
  refine r_iload c288_244 rfl ?_
  refine r_iconst c288_246 ?_
  refine r_iadd c288_247 ?_
  obtain ⟨s1, h⟩ := h
  refine r_iax c288_248 s1 ?_
  refine r_aload_n c288_249 rfl ?_
  refine r_iload c288_250 rfl ?_
  refine r_iconst c288_252 ?_
  refine r_iadd c288_253 ?_
  obtain ⟨s2, h⟩ := h
  refine r_iax c288_254 s2 ?_
  refine r_aload_n c288_255 rfl ?_
  refine r_iload c288_256 rfl ?_
  refine r_iconst c288_258 ?_
  refine r_iadd c288_259 ?_
  obtain ⟨s3, h⟩ := h
  refine r_iax c288_260 s3 ?_
  refine r_aload_n c288_261 rfl ?_
  refine r_iload c288_262 rfl ?_
  refine r_iconst c288_264 ?_
  refine r_iadd c288_265 ?_
  obtain ⟨s4, h⟩ := h
  refine r_iax c288_266 s4 ?_
  refine r_aload_n c288_267 rfl ?_
  refine r_iload c288_268 rfl ?_
  refine r_iconst c288_270 ?_
  refine r_iadd c288_271 ?_
  obtain ⟨s5, h⟩ := h
  refine r_iax c288_272 s5 ?_
  obtain ⟨o6, h⟩ := h
  exact r_call c288_273 rfl rfl (Nat.le_of_ble_eq_true rfl) (okc_r rfl rfl (oK hK o6)) h
theorem u288_276 {d : Nat} {l0 : Nat} {l1 : Nat} {l2 : Nat} {l3 : Nat} {l4 : Int} {l5 : PV} {l6 : PV} {t0 : Int} {t1 : Int} {M : Mem} {K : KK} {Q : RR → Mem → KK → Prop} (hK : K.1 = 923) (hX : FX M)  (h : (t0 = t1 → Wp (d + 1) 288 2445 [vR 31, vR l1, vR l2, vR l3, vI l4, l5, l6, vU] [] M K Q) ∧ (¬ (t0 = t1) → Q (.inl (some (vI (0 : Int)))) M K)) : Wp (d + 1) 288 276 [vR 31, vR l1, vR l2, vR l3, vI l4, l5, l6, vU] [vI t1, vI t0] M K Q := by
  refine r_icmpP (P := t0 = t1) c288_276 rfl (fun hc1 => ?_) (fun hc1 => ?_)
  · replace h := h.1 hc1
    exact h
  · replace h := h.2 hc1
    refine r_iconst c288_279 ?_
    exact r_iret c288_280 (by decide) h
theorem u288_281 {d : Nat} {l0 : Nat} {l1 : Nat} {l2 : Nat} {l3 : Nat} {l4 : Int} {l5 : PV} {l6 : PV} {M : Mem} {K : KK} {Q : RR → Mem → KK → Prop} (hK : K.1 = 923) (hX : FX M)  (h : (0 ≤ (w32 (l4 + (1 : Int))) ∧ (w32 (l4 + (1 : Int))) < M 30 0) ∧ Wm d 259 [vR l1, vI (M 31 (Int.toNat (w32 (l4 + (1 : Int))))), vR l3] M K (Bk d 288 289 292 259 [vR 31, vR l1, vR l2, vR l3, vI l4, l5, l6, vU] [] Q)) : Wp (d + 1) 288 281 [vR 31, vR l1, vR l2, vR l3, vI l4, l5, l6, vU] [] M K Q := by
  refine r_aload_n c288_281 rfl ?_
  refine r_aload_n c288_282 rfl ?_
  refine r_iload c288_283 rfl ?_
  refine r_iconst c288_285 ?_
  refine r_iadd c288_286 ?_
  obtain ⟨s1, h⟩ := h
  refine r_iax c288_287 s1 ?_
  refine r_aload_n c288_288 rfl ?_
  exact r_call c288_289 rfl rfl (Nat.le_of_ble_eq_true rfl) (okc_s rfl rfl rfl) h
theorem u288_292 {d : Nat} {l0 : Nat} {l1 : Nat} {l2 : Nat} {l3 : Nat} {l4 : Int} {l5 : PV} {l6 : PV} {t0 : Int} {M : Mem} {K : KK} {Q : RR → Mem → KK → Prop} (hK : K.1 = 923) (hX : FX M)  (h : (0 ≤ (w32 (l4 + (1 : Int))) ∧ (w32 (l4 + (1 : Int))) < M 30 0) ∧ isO 923 l2 12 = true ∧ Wm d 176 [vR l2, vI (M 31 (Int.toNat (w32 (l4 + (1 : Int)))))] M K (Bk d 288 301 304 176 [vR 31, vR l1, vR l2, vR l3, vI l4, vI t0, l6, vU] [] Q)) : Wp (d + 1) 288 292 [vR 31, vR l1, vR l2, vR l3, vI l4, l5, l6, vU] [vI t0] M K Q := by
  refine r_istore c288_292 (Nat.le_of_ble_eq_true rfl) ?_
  refine r_aload_n c288_294 rfl ?_
  refine r_aload_n c288_295 rfl ?_
  refine r_iload c288_296 rfl ?_
  refine r_iconst c288_298 ?_
  refine r_iadd c288_299 ?_
  obtain ⟨s1, h⟩ := h
  refine r_iax c288_300 s1 ?_
  obtain ⟨o2, h⟩ := h
  exact r_call c288_301 rfl rfl (Nat.le_of_ble_eq_true rfl) (okc_r rfl rfl (oK hK o2)) h
theorem u288_304 {d : Nat} {l0 : Nat} {l1 : Nat} {l2 : Nat} {l3 : Nat} {l4 : Int} {l5 : Int} {l6 : PV} {t0 : Int} {M : Mem} {K : KK} {Q : RR → Mem → KK → Prop} (hK : K.1 = 923) (hX : FX M)  (h : isO 923 l2 12 = true ∧ Wm d 151 [vR l2] M K (Bk d 288 307 310 151 [vR 31, vR l1, vR l2, vR l3, vI l4, vI l5, vI t0, vU] [] Q)) : Wp (d + 1) 288 304 [vR 31, vR l1, vR l2, vR l3, vI l4, vI l5, l6, vU] [vI t0] M K Q := by
  refine r_istore c288_304 (Nat.le_of_ble_eq_true rfl) ?_
  refine r_aload_n c288_306 rfl ?_
  obtain ⟨o1, h⟩ := h
  exact r_call c288_307 rfl rfl (Nat.le_of_ble_eq_true rfl) (okc_r rfl rfl (oK hK o1)) h
theorem u288_310 {d : Nat} {l0 : Nat} {l1 : Nat} {l2 : Nat} {l3 : Nat} {l4 : Int} {l5 : Int} {l6 : Int} {t0 : Int} {M : Mem} {K : KK} {Q : RR → Mem → KK → Prop} (hK : K.1 = 923) (hX : FX M)  (h : (t0 = l5 → (¬ l5 = (0 : Int) → Wp (d + 1) 288 2445 [vR 31, vR l1, vR l2, vR l3, vI l4, vI l5, vI l6, vU] [] M K Q) ∧ (l5 = (0 : Int) → isO 923 l3 22 = true ∧ (0 ≤ (0 : Int) ∧ (0 : Int) < (ln l3 : Int)) ∧ ((jcmp (M l3 0) l6) = (0 : Int) → Wp (d + 1) 288 2445 [vR 31, vR l1, vR l2, vR l3, vI l4, vI l5, vI l6, vU] [] M K Q) ∧ (¬ ((jcmp (M l3 0) l6) = (0 : Int)) → Q (.inl (some (vI (0 : Int)))) M K))) ∧ (¬ (t0 = l5) → Q (.inl (some (vI (0 : Int)))) M K)) : Wp (d + 1) 288 310 [vR 31, vR l1, vR l2, vR l3, vI l4, vI l5, vI l6, vU] [vI t0] M K Q := by
  refine r_iload c288_310 rfl ?_
  refine r_icmpP (P := t0 = l5) c288_312 rfl (fun hc1 => ?_) (fun hc1 => ?_)
  · replace h := h.1 hc1
    refine r_iload c288_317 rfl ?_
    refine r_ifP (P := ¬ l5 = (0 : Int)) c288_319 rfl (fun hc2 => ?_) (fun hc2 => ?_)
    · replace h := h.1 hc2
      refine r_goto c288_334 ?_
      exact h
    · have hc3 := Classical.not_not.mp hc2
      replace h := h.2 hc3
      refine r_aload_n c288_322 rfl ?_
      refine r_iconst c288_323 ?_
      obtain ⟨o4, h⟩ := h
      obtain ⟨s5, h⟩ := h
      refine r_lae c288_324 (oK hK o4) s5 rfl ?_
      refine r_iload c288_325 rfl ?_
      refine r_i2l c288_327 ?_
      refine r_lcmp c288_328 ?_
      refine r_ifP (P := (jcmp (M l3 0) l6) = (0 : Int)) c288_329 rfl (fun hc6 => ?_) (fun hc6 => ?_)
      · replace h := h.1 hc6
        refine r_goto c288_334 ?_
        exact h
      · replace h := h.2 hc6
        refine r_iconst c288_332 ?_
        exact r_iret c288_333 (by decide) h
  · replace h := h.2 hc1
    refine r_iconst c288_315 ?_
    exact r_iret c288_316 (by decide) h
theorem u288_337 {d : Nat} {l0 : Nat} {l1 : Nat} {l2 : Nat} {l3 : Nat} {l4 : Int} {l5 : PV} {l6 : PV} {M : Mem} {K : KK} {Q : RR → Mem → KK → Prop} (hK : K.1 = 923) (hX : FX M)  (h : (0 ≤ (w32 (l4 + (1 : Int))) ∧ (w32 (l4 + (1 : Int))) < M 30 0) ∧ Wm d 260 [vR l1, vI (M 31 (Int.toNat (w32 (l4 + (1 : Int))))), vR l3] M K (Bk d 288 345 348 260 [vR 31, vR l1, vR l2, vR l3, vI l4, l5, l6, vU] [] Q)) : Wp (d + 1) 288 337 [vR 31, vR l1, vR l2, vR l3, vI l4, l5, l6, vU] [] M K Q := by
  refine r_aload_n c288_337 rfl ?_
  refine r_aload_n c288_338 rfl ?_
  refine r_iload c288_339 rfl ?_
  refine r_iconst c288_341 ?_
  refine r_iadd c288_342 ?_
  obtain ⟨s1, h⟩ := h
  refine r_iax c288_343 s1 ?_
  refine r_aload_n c288_344 rfl ?_
  exact r_call c288_345 rfl rfl (Nat.le_of_ble_eq_true rfl) (okc_s rfl rfl rfl) h
theorem u288_348 {d : Nat} {l0 : Nat} {l1 : Nat} {l2 : Nat} {l3 : Nat} {l4 : Int} {l5 : PV} {l6 : PV} {t0 : Int} {M : Mem} {K : KK} {Q : RR → Mem → KK → Prop} (hK : K.1 = 923) (hX : FX M)  (h : (0 ≤ (w32 (l4 + (1 : Int))) ∧ (w32 (l4 + (1 : Int))) < M 30 0) ∧ isO 923 l2 12 = true ∧ Wm d 186 [vR l2, vI (M 31 (Int.toNat (w32 (l4 + (1 : Int)))))] M K (Bk d 288 357 360 186 [vR 31, vR l1, vR l2, vR l3, vI l4, vI t0, l6, vU] [] Q)) : Wp (d + 1) 288 348 [vR 31, vR l1, vR l2, vR l3, vI l4, l5, l6, vU] [vI t0] M K Q := by
  refine r_istore c288_348 (Nat.le_of_ble_eq_true rfl) ?_
  refine r_aload_n c288_350 rfl ?_
  refine r_aload_n c288_351 rfl ?_
  refine r_iload c288_352 rfl ?_
  refine r_iconst c288_354 ?_
  refine r_iadd c288_355 ?_
  obtain ⟨s1, h⟩ := h
  refine r_iax c288_356 s1 ?_
  obtain ⟨o2, h⟩ := h
  exact r_call c288_357 rfl rfl (Nat.le_of_ble_eq_true rfl) (okc_r rfl rfl (oK hK o2)) h
theorem u288_360 {d : Nat} {l0 : Nat} {l1 : Nat} {l2 : Nat} {l3 : Nat} {l4 : Int} {l5 : Int} {l6 : PV} {t0 : Int} {M : Mem} {K : KK} {Q : RR → Mem → KK → Prop} (hK : K.1 = 923) (hX : FX M)  (h : isO 923 l2 12 = true ∧ Wm d 151 [vR l2] M K (Bk d 288 363 366 151 [vR 31, vR l1, vR l2, vR l3, vI l4, vI l5, vI t0, vU] [] Q)) : Wp (d + 1) 288 360 [vR 31, vR l1, vR l2, vR l3, vI l4, vI l5, l6, vU] [vI t0] M K Q := by
  refine r_istore c288_360 (Nat.le_of_ble_eq_true rfl) ?_
  refine r_aload_n c288_362 rfl ?_
  obtain ⟨o1, h⟩ := h
  exact r_call c288_363 rfl rfl (Nat.le_of_ble_eq_true rfl) (okc_r rfl rfl (oK hK o1)) h
theorem u288_366 {d : Nat} {l0 : Nat} {l1 : Nat} {l2 : Nat} {l3 : Nat} {l4 : Int} {l5 : Int} {l6 : Int} {t0 : Int} {M : Mem} {K : KK} {Q : RR → Mem → KK → Prop} (hK : K.1 = 923) (hX : FX M)  (h : (t0 = l5 → (¬ l5 = (0 : Int) → Wp (d + 1) 288 2445 [vR 31, vR l1, vR l2, vR l3, vI l4, vI l5, vI l6, vU] [] M K Q) ∧ (l5 = (0 : Int) → isO 923 l3 22 = true ∧ (0 ≤ (0 : Int) ∧ (0 : Int) < (ln l3 : Int)) ∧ ((jcmp (M l3 0) l6) = (0 : Int) → Wp (d + 1) 288 2445 [vR 31, vR l1, vR l2, vR l3, vI l4, vI l5, vI l6, vU] [] M K Q) ∧ (¬ ((jcmp (M l3 0) l6) = (0 : Int)) → Q (.inl (some (vI (0 : Int)))) M K))) ∧ (¬ (t0 = l5) → Q (.inl (some (vI (0 : Int)))) M K)) : Wp (d + 1) 288 366 [vR 31, vR l1, vR l2, vR l3, vI l4, vI l5, vI l6, vU] [vI t0] M K Q := by
  refine r_iload c288_366 rfl ?_
  refine r_icmpP (P := t0 = l5) c288_368 rfl (fun hc1 => ?_) (fun hc1 => ?_)
  · replace h := h.1 hc1
    refine r_iload c288_373 rfl ?_
    refine r_ifP (P := ¬ l5 = (0 : Int)) c288_375 rfl (fun hc2 => ?_) (fun hc2 => ?_)
    · replace h := h.1 hc2
      refine r_goto c288_390 ?_
      exact h
    · have hc3 := Classical.not_not.mp hc2
      replace h := h.2 hc3
      refine r_aload_n c288_378 rfl ?_
      refine r_iconst c288_379 ?_
      obtain ⟨o4, h⟩ := h
      obtain ⟨s5, h⟩ := h
      refine r_lae c288_380 (oK hK o4) s5 rfl ?_
      refine r_iload c288_381 rfl ?_
      refine r_i2l c288_383 ?_
      refine r_lcmp c288_384 ?_
      refine r_ifP (P := (jcmp (M l3 0) l6) = (0 : Int)) c288_385 rfl (fun hc6 => ?_) (fun hc6 => ?_)
      · replace h := h.1 hc6
        refine r_goto c288_390 ?_
        exact h
      · replace h := h.2 hc6
        refine r_iconst c288_388 ?_
        exact r_iret c288_389 (by decide) h
  · replace h := h.2 hc1
    refine r_iconst c288_371 ?_
    exact r_iret c288_372 (by decide) h
theorem u288_393 {d : Nat} {l0 : Nat} {l1 : Nat} {l2 : Nat} {l3 : Nat} {l4 : Int} {l5 : PV} {l6 : PV} {M : Mem} {K : KK} {Q : RR → Mem → KK → Prop} (hK : K.1 = 923) (hX : FX M)  (h : (0 ≤ (w32 (l4 + (1 : Int))) ∧ (w32 (l4 + (1 : Int))) < M 30 0) ∧ Wm d 261 [vR l1, vI (M 31 (Int.toNat (w32 (l4 + (1 : Int))))), vR l3] M K (Bk d 288 401 404 261 [vR 31, vR l1, vR l2, vR l3, vI l4, l5, l6, vU] [] Q)) : Wp (d + 1) 288 393 [vR 31, vR l1, vR l2, vR l3, vI l4, l5, l6, vU] [] M K Q := by
  refine r_aload_n c288_393 rfl ?_
  refine r_aload_n c288_394 rfl ?_
  refine r_iload c288_395 rfl ?_
  refine r_iconst c288_397 ?_
  refine r_iadd c288_398 ?_
  obtain ⟨s1, h⟩ := h
  refine r_iax c288_399 s1 ?_
  refine r_aload_n c288_400 rfl ?_
  exact r_call c288_401 rfl rfl (Nat.le_of_ble_eq_true rfl) (okc_s rfl rfl rfl) h
theorem u288_404 {d : Nat} {l0 : Nat} {l1 : Nat} {l2 : Nat} {l3 : Nat} {l4 : Int} {l5 : PV} {l6 : PV} {t0 : Int} {M : Mem} {K : KK} {Q : RR → Mem → KK → Prop} (hK : K.1 = 923) (hX : FX M)  (h : (0 ≤ (w32 (l4 + (1 : Int))) ∧ (w32 (l4 + (1 : Int))) < M 30 0) ∧ isO 923 l2 12 = true ∧ Wm d 202 [vR l2, vI (M 31 (Int.toNat (w32 (l4 + (1 : Int)))))] M K (Bk d 288 413 416 202 [vR 31, vR l1, vR l2, vR l3, vI l4, vI t0, l6, vU] [] Q)) : Wp (d + 1) 288 404 [vR 31, vR l1, vR l2, vR l3, vI l4, l5, l6, vU] [vI t0] M K Q := by
  refine r_istore c288_404 (Nat.le_of_ble_eq_true rfl) ?_
  refine r_aload_n c288_406 rfl ?_
  refine r_aload_n c288_407 rfl ?_
  refine r_iload c288_408 rfl ?_
  refine r_iconst c288_410 ?_
  refine r_iadd c288_411 ?_
  obtain ⟨s1, h⟩ := h
  refine r_iax c288_412 s1 ?_
  obtain ⟨o2, h⟩ := h
  exact r_call c288_413 rfl rfl (Nat.le_of_ble_eq_true rfl) (okc_r rfl rfl (oK hK o2)) h
theorem u288_416 {d : Nat} {l0 : Nat} {l1 : Nat} {l2 : Nat} {l3 : Nat} {l4 : Int} {l5 : Int} {l6 : PV} {t0 : Int} {M : Mem} {K : KK} {Q : RR → Mem → KK → Prop} (hK : K.1 = 923) (hX : FX M)  (h : isO 923 l2 12 = true ∧ Wm d 151 [vR l2] M K (Bk d 288 419 422 151 [vR 31, vR l1, vR l2, vR l3, vI l4, vI l5, vI t0, vU] [] Q)) : Wp (d + 1) 288 416 [vR 31, vR l1, vR l2, vR l3, vI l4, vI l5, l6, vU] [vI t0] M K Q := by
  refine r_istore c288_416 (Nat.le_of_ble_eq_true rfl) ?_
  refine r_aload_n c288_418 rfl ?_
  obtain ⟨o1, h⟩ := h
  exact r_call c288_419 rfl rfl (Nat.le_of_ble_eq_true rfl) (okc_r rfl rfl (oK hK o1)) h
theorem u288_422 {d : Nat} {l0 : Nat} {l1 : Nat} {l2 : Nat} {l3 : Nat} {l4 : Int} {l5 : Int} {l6 : Int} {t0 : Int} {M : Mem} {K : KK} {Q : RR → Mem → KK → Prop} (hK : K.1 = 923) (hX : FX M)  (h : (t0 = l5 → (¬ l5 = (0 : Int) → Wp (d + 1) 288 2445 [vR 31, vR l1, vR l2, vR l3, vI l4, vI l5, vI l6, vU] [] M K Q) ∧ (l5 = (0 : Int) → isO 923 l3 22 = true ∧ (0 ≤ (0 : Int) ∧ (0 : Int) < (ln l3 : Int)) ∧ ((jcmp (M l3 0) l6) = (0 : Int) → Wp (d + 1) 288 2445 [vR 31, vR l1, vR l2, vR l3, vI l4, vI l5, vI l6, vU] [] M K Q) ∧ (¬ ((jcmp (M l3 0) l6) = (0 : Int)) → Q (.inl (some (vI (0 : Int)))) M K))) ∧ (¬ (t0 = l5) → Q (.inl (some (vI (0 : Int)))) M K)) : Wp (d + 1) 288 422 [vR 31, vR l1, vR l2, vR l3, vI l4, vI l5, vI l6, vU] [vI t0] M K Q := by
  refine r_iload c288_422 rfl ?_
  refine r_icmpP (P := t0 = l5) c288_424 rfl (fun hc1 => ?_) (fun hc1 => ?_)
  · replace h := h.1 hc1
    refine r_iload c288_429 rfl ?_
    refine r_ifP (P := ¬ l5 = (0 : Int)) c288_431 rfl (fun hc2 => ?_) (fun hc2 => ?_)
    · replace h := h.1 hc2
      refine r_goto c288_446 ?_
      exact h
    · have hc3 := Classical.not_not.mp hc2
      replace h := h.2 hc3
      refine r_aload_n c288_434 rfl ?_
      refine r_iconst c288_435 ?_
      obtain ⟨o4, h⟩ := h
      obtain ⟨s5, h⟩ := h
      refine r_lae c288_436 (oK hK o4) s5 rfl ?_
      refine r_iload c288_437 rfl ?_
      refine r_i2l c288_439 ?_
      refine r_lcmp c288_440 ?_
      refine r_ifP (P := (jcmp (M l3 0) l6) = (0 : Int)) c288_441 rfl (fun hc6 => ?_) (fun hc6 => ?_)
      · replace h := h.1 hc6
        refine r_goto c288_446 ?_
        exact h
      · replace h := h.2 hc6
        refine r_iconst c288_444 ?_
        exact r_iret c288_445 (by decide) h
  · replace h := h.2 hc1
    refine r_iconst c288_427 ?_
    exact r_iret c288_428 (by decide) h
theorem u288_449 {d : Nat} {l0 : Nat} {l1 : Nat} {l2 : Nat} {l3 : Nat} {l4 : Int} {l5 : PV} {l6 : PV} {M : Mem} {K : KK} {Q : RR → Mem → KK → Prop} (hK : K.1 = 923) (hX : FX M)  (h : (0 ≤ (w32 (l4 + (1 : Int))) ∧ (w32 (l4 + (1 : Int))) < M 30 0) ∧ Wm d 262 [vR l1, vI (M 31 (Int.toNat (w32 (l4 + (1 : Int))))), vR l3] M K (Bk d 288 457 460 262 [vR 31, vR l1, vR l2, vR l3, vI l4, l5, l6, vU] [] Q)) : Wp (d + 1) 288 449 [vR 31, vR l1, vR l2, vR l3, vI l4, l5, l6, vU] [] M K Q := by
  refine r_aload_n c288_449 rfl ?_
  refine r_aload_n c288_450 rfl ?_
  refine r_iload c288_451 rfl ?_
  refine r_iconst c288_453 ?_
  refine r_iadd c288_454 ?_
  obtain ⟨s1, h⟩ := h
  refine r_iax c288_455 s1 ?_
  refine r_aload_n c288_456 rfl ?_
  exact r_call c288_457 rfl rfl (Nat.le_of_ble_eq_true rfl) (okc_s rfl rfl rfl) h
theorem u288_460 {d : Nat} {l0 : Nat} {l1 : Nat} {l2 : Nat} {l3 : Nat} {l4 : Int} {l5 : PV} {l6 : PV} {t0 : Int} {M : Mem} {K : KK} {Q : RR → Mem → KK → Prop} (hK : K.1 = 923) (hX : FX M)  (h : (0 ≤ (w32 (l4 + (1 : Int))) ∧ (w32 (l4 + (1 : Int))) < M 30 0) ∧ isO 923 l2 12 = true ∧ Wm d 191 [vR l2, vI (M 31 (Int.toNat (w32 (l4 + (1 : Int)))))] M K (Bk d 288 469 472 191 [vR 31, vR l1, vR l2, vR l3, vI l4, vI t0, l6, vU] [] Q)) : Wp (d + 1) 288 460 [vR 31, vR l1, vR l2, vR l3, vI l4, l5, l6, vU] [vI t0] M K Q := by
  refine r_istore c288_460 (Nat.le_of_ble_eq_true rfl) ?_
  refine r_aload_n c288_462 rfl ?_
  refine r_aload_n c288_463 rfl ?_
  refine r_iload c288_464 rfl ?_
  refine r_iconst c288_466 ?_
  refine r_iadd c288_467 ?_
  obtain ⟨s1, h⟩ := h
  refine r_iax c288_468 s1 ?_
  obtain ⟨o2, h⟩ := h
  exact r_call c288_469 rfl rfl (Nat.le_of_ble_eq_true rfl) (okc_r rfl rfl (oK hK o2)) h
theorem u288_472 {d : Nat} {l0 : Nat} {l1 : Nat} {l2 : Nat} {l3 : Nat} {l4 : Int} {l5 : Int} {l6 : PV} {t0 : Int} {M : Mem} {K : KK} {Q : RR → Mem → KK → Prop} (hK : K.1 = 923) (hX : FX M)  (h : isO 923 l2 12 = true ∧ Wm d 151 [vR l2] M K (Bk d 288 475 478 151 [vR 31, vR l1, vR l2, vR l3, vI l4, vI l5, vI t0, vU] [] Q)) : Wp (d + 1) 288 472 [vR 31, vR l1, vR l2, vR l3, vI l4, vI l5, l6, vU] [vI t0] M K Q := by
  refine r_istore c288_472 (Nat.le_of_ble_eq_true rfl) ?_
  refine r_aload_n c288_474 rfl ?_
  obtain ⟨o1, h⟩ := h
  exact r_call c288_475 rfl rfl (Nat.le_of_ble_eq_true rfl) (okc_r rfl rfl (oK hK o1)) h
theorem u288_478 {d : Nat} {l0 : Nat} {l1 : Nat} {l2 : Nat} {l3 : Nat} {l4 : Int} {l5 : Int} {l6 : Int} {t0 : Int} {M : Mem} {K : KK} {Q : RR → Mem → KK → Prop} (hK : K.1 = 923) (hX : FX M)  (h : (t0 = l5 → (¬ l5 = (0 : Int) → Wp (d + 1) 288 2445 [vR 31, vR l1, vR l2, vR l3, vI l4, vI l5, vI l6, vU] [] M K Q) ∧ (l5 = (0 : Int) → isO 923 l3 22 = true ∧ (0 ≤ (0 : Int) ∧ (0 : Int) < (ln l3 : Int)) ∧ ((jcmp (M l3 0) l6) = (0 : Int) → Wp (d + 1) 288 2445 [vR 31, vR l1, vR l2, vR l3, vI l4, vI l5, vI l6, vU] [] M K Q) ∧ (¬ ((jcmp (M l3 0) l6) = (0 : Int)) → Q (.inl (some (vI (0 : Int)))) M K))) ∧ (¬ (t0 = l5) → Q (.inl (some (vI (0 : Int)))) M K)) : Wp (d + 1) 288 478 [vR 31, vR l1, vR l2, vR l3, vI l4, vI l5, vI l6, vU] [vI t0] M K Q := by
  refine r_iload c288_478 rfl ?_
  refine r_icmpP (P := t0 = l5) c288_480 rfl (fun hc1 => ?_) (fun hc1 => ?_)
  · replace h := h.1 hc1
    refine r_iload c288_485 rfl ?_
    refine r_ifP (P := ¬ l5 = (0 : Int)) c288_487 rfl (fun hc2 => ?_) (fun hc2 => ?_)
    · replace h := h.1 hc2
      refine r_goto c288_502 ?_
      exact h
    · have hc3 := Classical.not_not.mp hc2
      replace h := h.2 hc3
      refine r_aload_n c288_490 rfl ?_
      refine r_iconst c288_491 ?_
      obtain ⟨o4, h⟩ := h
      obtain ⟨s5, h⟩ := h
      refine r_lae c288_492 (oK hK o4) s5 rfl ?_
      refine r_iload c288_493 rfl ?_
      refine r_i2l c288_495 ?_
      refine r_lcmp c288_496 ?_
      refine r_ifP (P := (jcmp (M l3 0) l6) = (0 : Int)) c288_497 rfl (fun hc6 => ?_) (fun hc6 => ?_)
      · replace h := h.1 hc6
        refine r_goto c288_502 ?_
        exact h
      · replace h := h.2 hc6
        refine r_iconst c288_500 ?_
        exact r_iret c288_501 (by decide) h
  · replace h := h.2 hc1
    refine r_iconst c288_483 ?_
    exact r_iret c288_484 (by decide) h
theorem u288_505 {d : Nat} {l0 : Nat} {l1 : Nat} {l2 : Nat} {l3 : Nat} {l4 : Int} {l5 : PV} {l6 : PV} {M : Mem} {K : KK} {Q : RR → Mem → KK → Prop} (hK : K.1 = 923) (hX : FX M)  (h : isO 923 l1 11 = true ∧ Wm d 103 [vR l1] M K (Bk d 288 506 509 103 [vR 31, vR l1, vR l2, vR l3, vI l4, l5, l6, vU] [] Q)) : Wp (d + 1) 288 505 [vR 31, vR l1, vR l2, vR l3, vI l4, l5, l6, vU] [] M K Q := by
  refine r_aload_n c288_505 rfl ?_
  obtain ⟨o1, h⟩ := h
  exact r_call c288_506 rfl rfl (Nat.le_of_ble_eq_true rfl) (okc_r rfl rfl (oK hK o1)) h
theorem u288_509 {d : Nat} {l0 : Nat} {l1 : Nat} {l2 : Nat} {l3 : Nat} {l4 : Int} {l5 : PV} {l6 : PV} {t0 : Int} {M : Mem} {K : KK} {Q : RR → Mem → KK → Prop} (hK : K.1 = 923) (hX : FX M)  (h : isO 923 l2 12 = true ∧ Wm d 192 [vR l2] M K (Bk d 288 510 513 192 [vR 31, vR l1, vR l2, vR l3, vI l4, l5, l6, vU] [vI t0] Q)) : Wp (d + 1) 288 509 [vR 31, vR l1, vR l2, vR l3, vI l4, l5, l6, vU] [vI t0] M K Q := by
  refine r_aload_n c288_509 rfl ?_
  obtain ⟨o1, h⟩ := h
  exact r_call c288_510 rfl rfl (Nat.le_of_ble_eq_true rfl) (okc_r rfl rfl (oK hK o1)) h
theorem u288_513 {d : Nat} {l0 : Nat} {l1 : Nat} {l2 : Nat} {l3 : Nat} {l4 : Int} {l5 : PV} {l6 : PV} {t0 : Int} {t1 : Int} {M : Mem} {K : KK} {Q : RR → Mem → KK → Prop} (hK : K.1 = 923) (hX : FX M)  (h : (t0 = t1 → Wp (d + 1) 288 2445 [vR 31, vR l1, vR l2, vR l3, vI l4, l5, l6, vU] [] M K Q) ∧ (¬ (t0 = t1) → Q (.inl (some (vI (0 : Int)))) M K)) : Wp (d + 1) 288 513 [vR 31, vR l1, vR l2, vR l3, vI l4, l5, l6, vU] [vI t1, vI t0] M K Q := by
  refine r_icmpP (P := t0 = t1) c288_513 rfl (fun hc1 => ?_) (fun hc1 => ?_)
  · replace h := h.1 hc1
    exact h
  · replace h := h.2 hc1
    refine r_iconst c288_516 ?_
    exact r_iret c288_517 (by decide) h
theorem u288_518 {d : Nat} {l0 : Nat} {l1 : Nat} {l2 : Nat} {l3 : Nat} {l4 : Int} {l5 : PV} {l6 : PV} {M : Mem} {K : KK} {Q : RR → Mem → KK → Prop} (hK : K.1 = 923) (hX : FX M)  (h : isO 923 l1 11 = true ∧ Wm d 104 [vR l1] M K (Bk d 288 519 522 104 [vR 31, vR l1, vR l2, vR l3, vI l4, l5, l6, vU] [] Q)) : Wp (d + 1) 288 518 [vR 31, vR l1, vR l2, vR l3, vI l4, l5, l6, vU] [] M K Q := by
  refine r_aload_n c288_518 rfl ?_
  obtain ⟨o1, h⟩ := h
  exact r_call c288_519 rfl rfl (Nat.le_of_ble_eq_true rfl) (okc_r rfl rfl (oK hK o1)) h
theorem u288_522 {d : Nat} {l0 : Nat} {l1 : Nat} {l2 : Nat} {l3 : Nat} {l4 : Int} {l5 : PV} {l6 : PV} {t0 : Int} {M : Mem} {K : KK} {Q : RR → Mem → KK → Prop} (hK : K.1 = 923) (hX : FX M)  (h : isO 923 l2 12 = true ∧ Wm d 203 [vR l2] M K (Bk d 288 523 526 203 [vR 31, vR l1, vR l2, vR l3, vI l4, l5, l6, vU] [vI t0] Q)) : Wp (d + 1) 288 522 [vR 31, vR l1, vR l2, vR l3, vI l4, l5, l6, vU] [vI t0] M K Q := by
  refine r_aload_n c288_522 rfl ?_
  obtain ⟨o1, h⟩ := h
  exact r_call c288_523 rfl rfl (Nat.le_of_ble_eq_true rfl) (okc_r rfl rfl (oK hK o1)) h
theorem u288_526 {d : Nat} {l0 : Nat} {l1 : Nat} {l2 : Nat} {l3 : Nat} {l4 : Int} {l5 : PV} {l6 : PV} {t0 : Int} {t1 : Int} {M : Mem} {K : KK} {Q : RR → Mem → KK → Prop} (hK : K.1 = 923) (hX : FX M)  (h : (t0 = t1 → Wp (d + 1) 288 2445 [vR 31, vR l1, vR l2, vR l3, vI l4, l5, l6, vU] [] M K Q) ∧ (¬ (t0 = t1) → Q (.inl (some (vI (0 : Int)))) M K)) : Wp (d + 1) 288 526 [vR 31, vR l1, vR l2, vR l3, vI l4, l5, l6, vU] [vI t1, vI t0] M K Q := by
  refine r_icmpP (P := t0 = t1) c288_526 rfl (fun hc1 => ?_) (fun hc1 => ?_)
  · replace h := h.1 hc1
    exact h
  · replace h := h.2 hc1
    refine r_iconst c288_529 ?_
    exact r_iret c288_530 (by decide) h
theorem u288_531 {d : Nat} {l0 : Nat} {l1 : Nat} {l2 : Nat} {l3 : Nat} {l4 : Int} {l5 : PV} {l6 : PV} {M : Mem} {K : KK} {Q : RR → Mem → KK → Prop} (hK : K.1 = 923) (hX : FX M)  (h : (0 ≤ (w32 (l4 + (1 : Int))) ∧ (w32 (l4 + (1 : Int))) < M 30 0) ∧ Wm d 263 [vR l1, vI (M 31 (Int.toNat (w32 (l4 + (1 : Int))))), vR l3] M K (Bk d 288 539 542 263 [vR 31, vR l1, vR l2, vR l3, vI l4, l5, l6, vU] [] Q)) : Wp (d + 1) 288 531 [vR 31, vR l1, vR l2, vR l3, vI l4, l5, l6, vU] [] M K Q := by
  refine r_aload_n c288_531 rfl ?_
  refine r_aload_n c288_532 rfl ?_
  refine r_iload c288_533 rfl ?_
  refine r_iconst c288_535 ?_
  refine r_iadd c288_536 ?_
  obtain ⟨s1, h⟩ := h
  refine r_iax c288_537 s1 ?_
  refine r_aload_n c288_538 rfl ?_
  exact r_call c288_539 rfl rfl (Nat.le_of_ble_eq_true rfl) (okc_s rfl rfl rfl) h
theorem u288_542 {d : Nat} {l0 : Nat} {l1 : Nat} {l2 : Nat} {l3 : Nat} {l4 : Int} {l5 : PV} {l6 : PV} {t0 : Int} {M : Mem} {K : KK} {Q : RR → Mem → KK → Prop} (hK : K.1 = 923) (hX : FX M)  (h : (0 ≤ (w32 (l4 + (1 : Int))) ∧ (w32 (l4 + (1 : Int))) < M 30 0) ∧ isO 923 l2 12 = true ∧ Wm d 206 [vR l2, vI (M 31 (Int.toNat (w32 (l4 + (1 : Int)))))] M K (Bk d 288 551 554 206 [vR 31, vR l1, vR l2, vR l3, vI l4, vI t0, l6, vU] [] Q)) : Wp (d + 1) 288 542 [vR 31, vR l1, vR l2, vR l3, vI l4, l5, l6, vU] [vI t0] M K Q := by
  refine r_istore c288_542 (Nat.le_of_ble_eq_true rfl) ?_
  refine r_aload_n c288_544 rfl ?_
  refine r_aload_n c288_545 rfl ?_
  refine r_iload c288_546 rfl ?_
  refine r_iconst c288_548 ?_
  refine r_iadd c288_549 ?_
  obtain ⟨s1, h⟩ := h
  refine r_iax c288_550 s1 ?_
  obtain ⟨o2, h⟩ := h
  exact r_call c288_551 rfl rfl (Nat.le_of_ble_eq_true rfl) (okc_r rfl rfl (oK hK o2)) h
theorem u288_554 {d : Nat} {l0 : Nat} {l1 : Nat} {l2 : Nat} {l3 : Nat} {l4 : Int} {l5 : Int} {l6 : PV} {t0 : Int} {M : Mem} {K : KK} {Q : RR → Mem → KK → Prop} (hK : K.1 = 923) (hX : FX M)  (h : isO 923 l2 12 = true ∧ Wm d 151 [vR l2] M K (Bk d 288 557 560 151 [vR 31, vR l1, vR l2, vR l3, vI l4, vI l5, vI t0, vU] [] Q)) : Wp (d + 1) 288 554 [vR 31, vR l1, vR l2, vR l3, vI l4, vI l5, l6, vU] [vI t0] M K Q := by
  refine r_istore c288_554 (Nat.le_of_ble_eq_true rfl) ?_
  refine r_aload_n c288_556 rfl ?_
  obtain ⟨o1, h⟩ := h
  exact r_call c288_557 rfl rfl (Nat.le_of_ble_eq_true rfl) (okc_r rfl rfl (oK hK o1)) h
theorem u288_560 {d : Nat} {l0 : Nat} {l1 : Nat} {l2 : Nat} {l3 : Nat} {l4 : Int} {l5 : Int} {l6 : Int} {t0 : Int} {M : Mem} {K : KK} {Q : RR → Mem → KK → Prop} (hK : K.1 = 923) (hX : FX M)  (h : (t0 = l5 → (¬ l5 = (0 : Int) → Wp (d + 1) 288 2445 [vR 31, vR l1, vR l2, vR l3, vI l4, vI l5, vI l6, vU] [] M K Q) ∧ (l5 = (0 : Int) → isO 923 l3 22 = true ∧ (0 ≤ (0 : Int) ∧ (0 : Int) < (ln l3 : Int)) ∧ ((jcmp (M l3 0) l6) = (0 : Int) → Wp (d + 1) 288 2445 [vR 31, vR l1, vR l2, vR l3, vI l4, vI l5, vI l6, vU] [] M K Q) ∧ (¬ ((jcmp (M l3 0) l6) = (0 : Int)) → Q (.inl (some (vI (0 : Int)))) M K))) ∧ (¬ (t0 = l5) → Q (.inl (some (vI (0 : Int)))) M K)) : Wp (d + 1) 288 560 [vR 31, vR l1, vR l2, vR l3, vI l4, vI l5, vI l6, vU] [vI t0] M K Q := by
  refine r_iload c288_560 rfl ?_
  refine r_icmpP (P := t0 = l5) c288_562 rfl (fun hc1 => ?_) (fun hc1 => ?_)
  · replace h := h.1 hc1
    refine r_iload c288_567 rfl ?_
    refine r_ifP (P := ¬ l5 = (0 : Int)) c288_569 rfl (fun hc2 => ?_) (fun hc2 => ?_)
    · replace h := h.1 hc2
      refine r_goto c288_584 ?_
      exact h
    · have hc3 := Classical.not_not.mp hc2
      replace h := h.2 hc3
      refine r_aload_n c288_572 rfl ?_
      refine r_iconst c288_573 ?_
      obtain ⟨o4, h⟩ := h
      obtain ⟨s5, h⟩ := h
      refine r_lae c288_574 (oK hK o4) s5 rfl ?_
      refine r_iload c288_575 rfl ?_
      refine r_i2l c288_577 ?_
      refine r_lcmp c288_578 ?_
      refine r_ifP (P := (jcmp (M l3 0) l6) = (0 : Int)) c288_579 rfl (fun hc6 => ?_) (fun hc6 => ?_)
      · replace h := h.1 hc6
        refine r_goto c288_584 ?_
        exact h
      · replace h := h.2 hc6
        refine r_iconst c288_582 ?_
        exact r_iret c288_583 (by decide) h
  · replace h := h.2 hc1
    refine r_iconst c288_565 ?_
    exact r_iret c288_566 (by decide) h
theorem u288_587 {d : Nat} {l0 : Nat} {l1 : Nat} {l2 : Nat} {l3 : Nat} {l4 : Int} {l5 : PV} {l6 : PV} {M : Mem} {K : KK} {Q : RR → Mem → KK → Prop} (hK : K.1 = 923) (hX : FX M)  (h : (0 ≤ (w32 (l4 + (1 : Int))) ∧ (w32 (l4 + (1 : Int))) < M 30 0) ∧ (0 ≤ (w32 (l4 + (2 : Int))) ∧ (w32 (l4 + (2 : Int))) < M 30 0) ∧ Wm d 264 [vR l1, vI (M 31 (Int.toNat (w32 (l4 + (1 : Int))))), vI (M 31 (Int.toNat (w32 (l4 + (2 : Int))))), vR l3] M K (Bk d 288 601 604 264 [vR 31, vR l1, vR l2, vR l3, vI l4, l5, l6, vU] [] Q)) : Wp (d + 1) 288 587 [vR 31, vR l1, vR l2, vR l3, vI l4, l5, l6, vU] [] M K Q := by
  refine r_aload_n c288_587 rfl ?_
  refine r_aload_n c288_588 rfl ?_
  refine r_iload c288_589 rfl ?_
  refine r_iconst c288_591 ?_
  refine r_iadd c288_592 ?_
  obtain ⟨s1, h⟩ := h
  refine r_iax c288_593 s1 ?_
  refine r_aload_n c288_594 rfl ?_
  refine r_iload c288_595 rfl ?_
  refine r_iconst c288_597 ?_
  refine r_iadd c288_598 ?_
  obtain ⟨s2, h⟩ := h
  refine r_iax c288_599 s2 ?_
  refine r_aload_n c288_600 rfl ?_
  exact r_call c288_601 rfl rfl (Nat.le_of_ble_eq_true rfl) (okc_s rfl rfl rfl) h
theorem u288_604 {d : Nat} {l0 : Nat} {l1 : Nat} {l2 : Nat} {l3 : Nat} {l4 : Int} {l5 : PV} {l6 : PV} {t0 : Int} {M : Mem} {K : KK} {Q : RR → Mem → KK → Prop} (hK : K.1 = 923) (hX : FX M)  (h : (0 ≤ (w32 (l4 + (1 : Int))) ∧ (w32 (l4 + (1 : Int))) < M 30 0) ∧ (0 ≤ (w32 (l4 + (2 : Int))) ∧ (w32 (l4 + (2 : Int))) < M 30 0) ∧ isO 923 l2 12 = true ∧ Wm d 210 [vR l2, vI (M 31 (Int.toNat (w32 (l4 + (1 : Int))))), vI (M 31 (Int.toNat (w32 (l4 + (2 : Int)))))] M K (Bk d 288 619 622 210 [vR 31, vR l1, vR l2, vR l3, vI l4, vI t0, l6, vU] [] Q)) : Wp (d + 1) 288 604 [vR 31, vR l1, vR l2, vR l3, vI l4, l5, l6, vU] [vI t0] M K Q := by
  refine r_istore c288_604 (Nat.le_of_ble_eq_true rfl) ?_
  refine r_aload_n c288_606 rfl ?_
  refine r_aload_n c288_607 rfl ?_
  refine r_iload c288_608 rfl ?_
  refine r_iconst c288_610 ?_
  refine r_iadd c288_611 ?_
  obtain ⟨s1, h⟩ := h
  refine r_iax c288_612 s1 ?_
  refine r_aload_n c288_613 rfl ?_
  refine r_iload c288_614 rfl ?_
  refine r_iconst c288_616 ?_
  refine r_iadd c288_617 ?_
  obtain ⟨s2, h⟩ := h
  refine r_iax c288_618 s2 ?_
  obtain ⟨o3, h⟩ := h
  exact r_call c288_619 rfl rfl (Nat.le_of_ble_eq_true rfl) (okc_r rfl rfl (oK hK o3)) h
theorem u288_622 {d : Nat} {l0 : Nat} {l1 : Nat} {l2 : Nat} {l3 : Nat} {l4 : Int} {l5 : Int} {l6 : PV} {t0 : Int} {M : Mem} {K : KK} {Q : RR → Mem → KK → Prop} (hK : K.1 = 923) (hX : FX M)  (h : isO 923 l2 12 = true ∧ Wm d 151 [vR l2] M K (Bk d 288 625 628 151 [vR 31, vR l1, vR l2, vR l3, vI l4, vI l5, vI t0, vU] [] Q)) : Wp (d + 1) 288 622 [vR 31, vR l1, vR l2, vR l3, vI l4, vI l5, l6, vU] [vI t0] M K Q := by
  refine r_istore c288_622 (Nat.le_of_ble_eq_true rfl) ?_
  refine r_aload_n c288_624 rfl ?_
  obtain ⟨o1, h⟩ := h
  exact r_call c288_625 rfl rfl (Nat.le_of_ble_eq_true rfl) (okc_r rfl rfl (oK hK o1)) h
theorem u288_628 {d : Nat} {l0 : Nat} {l1 : Nat} {l2 : Nat} {l3 : Nat} {l4 : Int} {l5 : Int} {l6 : Int} {t0 : Int} {M : Mem} {K : KK} {Q : RR → Mem → KK → Prop} (hK : K.1 = 923) (hX : FX M)  (h : (t0 = l5 → (¬ l5 = (0 : Int) → Wp (d + 1) 288 2445 [vR 31, vR l1, vR l2, vR l3, vI l4, vI l5, vI l6, vU] [] M K Q) ∧ (l5 = (0 : Int) → isO 923 l3 22 = true ∧ (0 ≤ (0 : Int) ∧ (0 : Int) < (ln l3 : Int)) ∧ ((jcmp (M l3 0) l6) = (0 : Int) → Wp (d + 1) 288 2445 [vR 31, vR l1, vR l2, vR l3, vI l4, vI l5, vI l6, vU] [] M K Q) ∧ (¬ ((jcmp (M l3 0) l6) = (0 : Int)) → Q (.inl (some (vI (0 : Int)))) M K))) ∧ (¬ (t0 = l5) → Q (.inl (some (vI (0 : Int)))) M K)) : Wp (d + 1) 288 628 [vR 31, vR l1, vR l2, vR l3, vI l4, vI l5, vI l6, vU] [vI t0] M K Q := by
  refine r_iload c288_628 rfl ?_
  refine r_icmpP (P := t0 = l5) c288_630 rfl (fun hc1 => ?_) (fun hc1 => ?_)
  · replace h := h.1 hc1
    refine r_iload c288_635 rfl ?_
    refine r_ifP (P := ¬ l5 = (0 : Int)) c288_637 rfl (fun hc2 => ?_) (fun hc2 => ?_)
    · replace h := h.1 hc2
      refine r_goto c288_652 ?_
      exact h
    · have hc3 := Classical.not_not.mp hc2
      replace h := h.2 hc3
      refine r_aload_n c288_640 rfl ?_
      refine r_iconst c288_641 ?_
      obtain ⟨o4, h⟩ := h
      obtain ⟨s5, h⟩ := h
      refine r_lae c288_642 (oK hK o4) s5 rfl ?_
      refine r_iload c288_643 rfl ?_
      refine r_i2l c288_645 ?_
      refine r_lcmp c288_646 ?_
      refine r_ifP (P := (jcmp (M l3 0) l6) = (0 : Int)) c288_647 rfl (fun hc6 => ?_) (fun hc6 => ?_)
      · replace h := h.1 hc6
        refine r_goto c288_652 ?_
        exact h
      · replace h := h.2 hc6
        refine r_iconst c288_650 ?_
        exact r_iret c288_651 (by decide) h
  · replace h := h.2 hc1
    refine r_iconst c288_633 ?_
    exact r_iret c288_634 (by decide) h
theorem u288_655 {d : Nat} {l0 : Nat} {l1 : Nat} {l2 : Nat} {l3 : Nat} {l4 : Int} {l5 : PV} {l6 : PV} {M : Mem} {K : KK} {Q : RR → Mem → KK → Prop} (hK : K.1 = 923) (hX : FX M)  (h : (0 ≤ (w32 (l4 + (1 : Int))) ∧ (w32 (l4 + (1 : Int))) < M 30 0) ∧ (0 ≤ (w32 (l4 + (2 : Int))) ∧ (w32 (l4 + (2 : Int))) < M 30 0) ∧ Wm d 265 [vR l1, vI (M 31 (Int.toNat (w32 (l4 + (1 : Int))))), vI (M 31 (Int.toNat (w32 (l4 + (2 : Int))))), vR l3] M K (Bk d 288 669 672 265 [vR 31, vR l1, vR l2, vR l3, vI l4, l5, l6, vU] [] Q)) : Wp (d + 1) 288 655 [vR 31, vR l1, vR l2, vR l3, vI l4, l5, l6, vU] [] M K Q := by
  refine r_aload_n c288_655 rfl ?_
  refine r_aload_n c288_656 rfl ?_
  refine r_iload c288_657 rfl ?_
  refine r_iconst c288_659 ?_
  refine r_iadd c288_660 ?_
  obtain ⟨s1, h⟩ := h
  refine r_iax c288_661 s1 ?_
  refine r_aload_n c288_662 rfl ?_
  refine r_iload c288_663 rfl ?_
  refine r_iconst c288_665 ?_
  refine r_iadd c288_666 ?_
  obtain ⟨s2, h⟩ := h
  refine r_iax c288_667 s2 ?_
  refine r_aload_n c288_668 rfl ?_
  exact r_call c288_669 rfl rfl (Nat.le_of_ble_eq_true rfl) (okc_s rfl rfl rfl) h
theorem u288_672 {d : Nat} {l0 : Nat} {l1 : Nat} {l2 : Nat} {l3 : Nat} {l4 : Int} {l5 : PV} {l6 : PV} {t0 : Int} {M : Mem} {K : KK} {Q : RR → Mem → KK → Prop} (hK : K.1 = 923) (hX : FX M)  (h : (0 ≤ (w32 (l4 + (1 : Int))) ∧ (w32 (l4 + (1 : Int))) < M 30 0) ∧ (0 ≤ (w32 (l4 + (2 : Int))) ∧ (w32 (l4 + (2 : Int))) < M 30 0) ∧ isO 923 l2 12 = true ∧ Wm d 211 [vR l2, vI (M 31 (Int.toNat (w32 (l4 + (1 : Int))))), vI (M 31 (Int.toNat (w32 (l4 + (2 : Int)))))] M K (Bk d 288 687 690 211 [vR 31, vR l1, vR l2, vR l3, vI l4, vI t0, l6, vU] [] Q)) : Wp (d + 1) 288 672 [vR 31, vR l1, vR l2, vR l3, vI l4, l5, l6, vU] [vI t0] M K Q := by
  refine r_istore c288_672 (Nat.le_of_ble_eq_true rfl) ?_
  refine r_aload_n c288_674 rfl ?_
  refine r_aload_n c288_675 rfl ?_
  refine r_iload c288_676 rfl ?_
  refine r_iconst c288_678 ?_
  refine r_iadd c288_679 ?_
  obtain ⟨s1, h⟩ := h
  refine r_iax c288_680 s1 ?_
  refine r_aload_n c288_681 rfl ?_
  refine r_iload c288_682 rfl ?_
  refine r_iconst c288_684 ?_
  refine r_iadd c288_685 ?_
  obtain ⟨s2, h⟩ := h
  refine r_iax c288_686 s2 ?_
  obtain ⟨o3, h⟩ := h
  exact r_call c288_687 rfl rfl (Nat.le_of_ble_eq_true rfl) (okc_r rfl rfl (oK hK o3)) h
theorem u288_690 {d : Nat} {l0 : Nat} {l1 : Nat} {l2 : Nat} {l3 : Nat} {l4 : Int} {l5 : Int} {l6 : PV} {t0 : Int} {M : Mem} {K : KK} {Q : RR → Mem → KK → Prop} (hK : K.1 = 923) (hX : FX M)  (h : isO 923 l2 12 = true ∧ Wm d 151 [vR l2] M K (Bk d 288 693 696 151 [vR 31, vR l1, vR l2, vR l3, vI l4, vI l5, vI t0, vU] [] Q)) : Wp (d + 1) 288 690 [vR 31, vR l1, vR l2, vR l3, vI l4, vI l5, l6, vU] [vI t0] M K Q := by
  refine r_istore c288_690 (Nat.le_of_ble_eq_true rfl) ?_
  refine r_aload_n c288_692 rfl ?_
  obtain ⟨o1, h⟩ := h
  exact r_call c288_693 rfl rfl (Nat.le_of_ble_eq_true rfl) (okc_r rfl rfl (oK hK o1)) h
theorem u288_696 {d : Nat} {l0 : Nat} {l1 : Nat} {l2 : Nat} {l3 : Nat} {l4 : Int} {l5 : Int} {l6 : Int} {t0 : Int} {M : Mem} {K : KK} {Q : RR → Mem → KK → Prop} (hK : K.1 = 923) (hX : FX M)  (h : (t0 = l5 → (¬ l5 = (0 : Int) → Wp (d + 1) 288 2445 [vR 31, vR l1, vR l2, vR l3, vI l4, vI l5, vI l6, vU] [] M K Q) ∧ (l5 = (0 : Int) → isO 923 l3 22 = true ∧ (0 ≤ (0 : Int) ∧ (0 : Int) < (ln l3 : Int)) ∧ ((jcmp (M l3 0) l6) = (0 : Int) → Wp (d + 1) 288 2445 [vR 31, vR l1, vR l2, vR l3, vI l4, vI l5, vI l6, vU] [] M K Q) ∧ (¬ ((jcmp (M l3 0) l6) = (0 : Int)) → Q (.inl (some (vI (0 : Int)))) M K))) ∧ (¬ (t0 = l5) → Q (.inl (some (vI (0 : Int)))) M K)) : Wp (d + 1) 288 696 [vR 31, vR l1, vR l2, vR l3, vI l4, vI l5, vI l6, vU] [vI t0] M K Q := by
  refine r_iload c288_696 rfl ?_
  refine r_icmpP (P := t0 = l5) c288_698 rfl (fun hc1 => ?_) (fun hc1 => ?_)
  · replace h := h.1 hc1
    refine r_iload c288_703 rfl ?_
    refine r_ifP (P := ¬ l5 = (0 : Int)) c288_705 rfl (fun hc2 => ?_) (fun hc2 => ?_)
    · replace h := h.1 hc2
      refine r_goto c288_720 ?_
      exact h
    · have hc3 := Classical.not_not.mp hc2
      replace h := h.2 hc3
      refine r_aload_n c288_708 rfl ?_
      refine r_iconst c288_709 ?_
      obtain ⟨o4, h⟩ := h
      obtain ⟨s5, h⟩ := h
      refine r_lae c288_710 (oK hK o4) s5 rfl ?_
      refine r_iload c288_711 rfl ?_
      refine r_i2l c288_713 ?_
      refine r_lcmp c288_714 ?_
      refine r_ifP (P := (jcmp (M l3 0) l6) = (0 : Int)) c288_715 rfl (fun hc6 => ?_) (fun hc6 => ?_)
      · replace h := h.1 hc6
        refine r_goto c288_720 ?_
        exact h
      · replace h := h.2 hc6
        refine r_iconst c288_718 ?_
        exact r_iret c288_719 (by decide) h
  · replace h := h.2 hc1
    refine r_iconst c288_701 ?_
    exact r_iret c288_702 (by decide) h
theorem u288_723 {d : Nat} {l0 : Nat} {l1 : Nat} {l2 : Nat} {l3 : Nat} {l4 : Int} {l5 : PV} {l6 : PV} {M : Mem} {K : KK} {Q : RR → Mem → KK → Prop} (hK : K.1 = 923) (hX : FX M)  (h : (0 ≤ (w32 (l4 + (1 : Int))) ∧ (w32 (l4 + (1 : Int))) < M 30 0) ∧ Wm d 266 [vR l1, vI (M 31 (Int.toNat (w32 (l4 + (1 : Int))))), vR l3] M K (Bk d 288 731 734 266 [vR 31, vR l1, vR l2, vR l3, vI l4, l5, l6, vU] [] Q)) : Wp (d + 1) 288 723 [vR 31, vR l1, vR l2, vR l3, vI l4, l5, l6, vU] [] M K Q := by
  refine r_aload_n c288_723 rfl ?_
  refine r_aload_n c288_724 rfl ?_
  refine r_iload c288_725 rfl ?_
  refine r_iconst c288_727 ?_
  refine r_iadd c288_728 ?_
  obtain ⟨s1, h⟩ := h
  refine r_iax c288_729 s1 ?_
  refine r_aload_n c288_730 rfl ?_
  exact r_call c288_731 rfl rfl (Nat.le_of_ble_eq_true rfl) (okc_s rfl rfl rfl) h
theorem u288_734 {d : Nat} {l0 : Nat} {l1 : Nat} {l2 : Nat} {l3 : Nat} {l4 : Int} {l5 : PV} {l6 : PV} {t0 : Int} {M : Mem} {K : KK} {Q : RR → Mem → KK → Prop} (hK : K.1 = 923) (hX : FX M)  (h : (0 ≤ (w32 (l4 + (1 : Int))) ∧ (w32 (l4 + (1 : Int))) < M 30 0) ∧ isO 923 l2 12 = true ∧ Wm d 212 [vR l2, vI (M 31 (Int.toNat (w32 (l4 + (1 : Int)))))] M K (Bk d 288 743 746 212 [vR 31, vR l1, vR l2, vR l3, vI l4, vI t0, l6, vU] [] Q)) : Wp (d + 1) 288 734 [vR 31, vR l1, vR l2, vR l3, vI l4, l5, l6, vU] [vI t0] M K Q := by
  refine r_istore c288_734 (Nat.le_of_ble_eq_true rfl) ?_
  refine r_aload_n c288_736 rfl ?_
  refine r_aload_n c288_737 rfl ?_
  refine r_iload c288_738 rfl ?_
  refine r_iconst c288_740 ?_
  refine r_iadd c288_741 ?_
  obtain ⟨s1, h⟩ := h
  refine r_iax c288_742 s1 ?_
  obtain ⟨o2, h⟩ := h
  exact r_call c288_743 rfl rfl (Nat.le_of_ble_eq_true rfl) (okc_r rfl rfl (oK hK o2)) h
theorem u288_746 {d : Nat} {l0 : Nat} {l1 : Nat} {l2 : Nat} {l3 : Nat} {l4 : Int} {l5 : Int} {l6 : PV} {t0 : Int} {M : Mem} {K : KK} {Q : RR → Mem → KK → Prop} (hK : K.1 = 923) (hX : FX M)  (h : isO 923 l2 12 = true ∧ Wm d 151 [vR l2] M K (Bk d 288 749 752 151 [vR 31, vR l1, vR l2, vR l3, vI l4, vI l5, vI t0, vU] [] Q)) : Wp (d + 1) 288 746 [vR 31, vR l1, vR l2, vR l3, vI l4, vI l5, l6, vU] [vI t0] M K Q := by
  refine r_istore c288_746 (Nat.le_of_ble_eq_true rfl) ?_
  refine r_aload_n c288_748 rfl ?_
  obtain ⟨o1, h⟩ := h
  exact r_call c288_749 rfl rfl (Nat.le_of_ble_eq_true rfl) (okc_r rfl rfl (oK hK o1)) h
theorem u288_752 {d : Nat} {l0 : Nat} {l1 : Nat} {l2 : Nat} {l3 : Nat} {l4 : Int} {l5 : Int} {l6 : Int} {t0 : Int} {M : Mem} {K : KK} {Q : RR → Mem → KK → Prop} (hK : K.1 = 923) (hX : FX M)  (h : (t0 = l5 → (¬ l5 = (0 : Int) → Wp (d + 1) 288 2445 [vR 31, vR l1, vR l2, vR l3, vI l4, vI l5, vI l6, vU] [] M K Q) ∧ (l5 = (0 : Int) → isO 923 l3 22 = true ∧ (0 ≤ (0 : Int) ∧ (0 : Int) < (ln l3 : Int)) ∧ ((jcmp (M l3 0) l6) = (0 : Int) → Wp (d + 1) 288 2445 [vR 31, vR l1, vR l2, vR l3, vI l4, vI l5, vI l6, vU] [] M K Q) ∧ (¬ ((jcmp (M l3 0) l6) = (0 : Int)) → Q (.inl (some (vI (0 : Int)))) M K))) ∧ (¬ (t0 = l5) → Q (.inl (some (vI (0 : Int)))) M K)) : Wp (d + 1) 288 752 [vR 31, vR l1, vR l2, vR l3, vI l4, vI l5, vI l6, vU] [vI t0] M K Q := by
  refine r_iload c288_752 rfl ?_
  refine r_icmpP (P := t0 = l5) c288_754 rfl (fun hc1 => ?_) (fun hc1 => ?_)
  · replace h := h.1 hc1
    refine r_iload c288_759 rfl ?_
    refine r_ifP (P := ¬ l5 = (0 : Int)) c288_761 rfl (fun hc2 => ?_) (fun hc2 => ?_)
    · replace h := h.1 hc2
      refine r_goto c288_776 ?_
      exact h
    · have hc3 := Classical.not_not.mp hc2
      replace h := h.2 hc3
      refine r_aload_n c288_764 rfl ?_
      refine r_iconst c288_765 ?_
      obtain ⟨o4, h⟩ := h
      obtain ⟨s5, h⟩ := h
      refine r_lae c288_766 (oK hK o4) s5 rfl ?_
      refine r_iload c288_767 rfl ?_
      refine r_i2l c288_769 ?_
      refine r_lcmp c288_770 ?_
      refine r_ifP (P := (jcmp (M l3 0) l6) = (0 : Int)) c288_771 rfl (fun hc6 => ?_) (fun hc6 => ?_)
      · replace h := h.1 hc6
        refine r_goto c288_776 ?_
        exact h
      · replace h := h.2 hc6
        refine r_iconst c288_774 ?_
        exact r_iret c288_775 (by decide) h
  · replace h := h.2 hc1
    refine r_iconst c288_757 ?_
    exact r_iret c288_758 (by decide) h
theorem u288_779 {d : Nat} {l0 : Nat} {l1 : Nat} {l2 : Nat} {l3 : Nat} {l4 : Int} {l5 : PV} {l6 : PV} {M : Mem} {K : KK} {Q : RR → Mem → KK → Prop} (hK : K.1 = 923) (hX : FX M)  (h : (0 ≤ (w32 (l4 + (1 : Int))) ∧ (w32 (l4 + (1 : Int))) < M 30 0) ∧ (0 ≤ (w32 (l4 + (2 : Int))) ∧ (w32 (l4 + (2 : Int))) < M 30 0) ∧ (0 ≤ (w32 (l4 + (3 : Int))) ∧ (w32 (l4 + (3 : Int))) < M 30 0) ∧ (0 ≤ (w32 (l4 + (4 : Int))) ∧ (w32 (l4 + (4 : Int))) < M 30 0) ∧ (0 ≤ (w32 (l4 + (5 : Int))) ∧ (w32 (l4 + (5 : Int))) < M 30 0) ∧ (0 ≤ (w32 (l4 + (6 : Int))) ∧ (w32 (l4 + (6 : Int))) < M 30 0) ∧ (0 ≤ (w32 (l4 + (7 : Int))) ∧ (w32 (l4 + (7 : Int))) < M 30 0) ∧ (0 ≤ (w32 (l4 + (8 : Int))) ∧ (w32 (l4 + (8 : Int))) < M 30 0) ∧ Wm d 267 [vR l1, vI (M 31 (Int.toNat (w32 (l4 + (1 : Int))))), vI (M 31 (Int.toNat (w32 (l4 + (2 : Int))))), vI (M 31 (Int.toNat (w32 (l4 + (3 : Int))))), vI (M 31 (Int.toNat (w32 (l4 + (4 : Int))))), vI (M 31 (Int.toNat (w32 (l4 + (5 : Int))))), vI (M 31 (Int.toNat (w32 (l4 + (6 : Int))))), vI (M 31 (Int.toNat (w32 (l4 + (7 : Int))))), vI (M 31 (Int.toNat (w32 (l4 + (8 : Int))))), vR l3] M K (Bk d 288 832 835 267 [vR 31, vR l1, vR l2, vR l3, vI l4, l5, l6, vU] [] Q)) : Wp (d + 1) 288 779 [vR 31, vR l1, vR l2, vR l3, vI l4, l5, l6, vU] [] M K Q := by
  refine r_aload_n c288_779 rfl ?_
  refine r_aload_n c288_780 rfl ?_
  refine r_iload c288_781 rfl ?_
  refine r_iconst c288_783 ?_
  refine r_iadd c288_784 ?_
  obtain ⟨s1, h⟩ := h
  refine r_iax c288_785 s1 ?_
  refine r_aload_n c288_786 rfl ?_
  refine r_iload c288_787 rfl ?_
  refine r_iconst c288_789 ?_
  refine r_iadd c288_790 ?_
  obtain ⟨s2, h⟩ := h
  refine r_iax c288_791 s2 ?_
  refine r_aload_n c288_792 rfl ?_
  refine r_iload c288_793 rfl ?_
  refine r_iconst c288_795 ?_
  refine r_iadd c288_796 ?_
  obtain ⟨s3, h⟩ := h
  refine r_iax c288_797 s3 ?_
  refine r_aload_n c288_798 rfl ?_
  refine r_iload c288_799 rfl ?_
  refine r_iconst c288_801 ?_
  refine r_iadd c288_802 ?_
  obtain ⟨s4, h⟩ := h
  refine r_iax c288_803 s4 ?_
  refine r_aload_n c288_804 rfl ?_
  refine r_iload c288_805 rfl ?_
  refine r_iconst c288_807 ?_
  refine r_iadd c288_808 ?_
  obtain ⟨s5, h⟩ := h
  refine r_iax c288_809 s5 ?_
  refine r_aload_n c288_810 rfl ?_
  refine r_iload c288_811 rfl ?_
  refine r_bipush c288_813 ?_
  refine r_iadd c288_815 ?_
  obtain ⟨s6, h⟩ := h
  refine r_iax c288_816 s6 ?_
  refine r_aload_n c288_817 rfl ?_
  refine r_iload c288_818 rfl ?_
  refine r_bipush c288_820 ?_
  refine r_iadd c288_822 ?_
  obtain ⟨s7, h⟩ := h
  refine r_iax c288_823 s7 ?_
  refine r_aload_n c288_824 rfl ?_
  refine r_iload c288_825 rfl ?_
  refine r_bipush c288_827 ?_
  refine r_iadd c288_829 ?_
  obtain ⟨s8, h⟩ := h
  refine r_iax c288_830 s8 ?_
  refine r_aload_n c288_831 rfl ?_
  exact r_call c288_832 rfl rfl (Nat.le_of_ble_eq_true rfl) (okc_s rfl rfl rfl) h
theorem u288_835 {d : Nat} {l0 : Nat} {l1 : Nat} {l2 : Nat} {l3 : Nat} {l4 : Int} {l5 : PV} {l6 : PV} {t0 : Int} {M : Mem} {K : KK} {Q : RR → Mem → KK → Prop} (hK : K.1 = 923) (hX : FX M)  (h : (0 ≤ (w32 (l4 + (1 : Int))) ∧ (w32 (l4 + (1 : Int))) < M 30 0) ∧ (0 ≤ (w32 (l4 + (2 : Int))) ∧ (w32 (l4 + (2 : Int))) < M 30 0) ∧ (0 ≤ (w32 (l4 + (3 : Int))) ∧ (w32 (l4 + (3 : Int))) < M 30 0) ∧ (0 ≤ (w32 (l4 + (4 : Int))) ∧ (w32 (l4 + (4 : Int))) < M 30 0) ∧ (0 ≤ (w32 (l4 + (5 : Int))) ∧ (w32 (l4 + (5 : Int))) < M 30 0) ∧ (0 ≤ (w32 (l4 + (6 : Int))) ∧ (w32 (l4 + (6 : Int))) < M 30 0) ∧ (0 ≤ (w32 (l4 + (7 : Int))) ∧ (w32 (l4 + (7 : Int))) < M 30 0) ∧ (0 ≤ (w32 (l4 + (8 : Int))) ∧ (w32 (l4 + (8 : Int))) < M 30 0) ∧ isO 923 l2 12 = true ∧ Wm d 213 [vR l2, vI (M 31 (Int.toNat (w32 (l4 + (1 : Int))))), vI (M 31 (Int.toNat (w32 (l4 + (2 : Int))))), vI (M 31 (Int.toNat (w32 (l4 + (3 : Int))))), vI (M 31 (Int.toNat (w32 (l4 + (4 : Int))))), vI (M 31 (Int.toNat (w32 (l4 + (5 : Int))))), vI (M 31 (Int.toNat (w32 (l4 + (6 : Int))))), vI (M 31 (Int.toNat (w32 (l4 + (7 : Int))))), vI (M 31 (Int.toNat (w32 (l4 + (8 : Int)))))] M K (Bk d 288 889 892 213 [vR 31, vR l1, vR l2, vR l3, vI l4, vI t0, l6, vU] [] Q)) : Wp (d + 1) 288 835 [vR 31, vR l1, vR l2, vR l3, vI l4, l5, l6, vU] [vI t0] M K Q := by
  refine r_istore c288_835 (Nat.le_of_ble_eq_true rfl) ?_
  refine r_aload_n c288_837 rfl ?_
  refine r_aload_n c288_838 rfl ?_
  refine r_iload c288_839 rfl ?_
  refine r_iconst c288_841 ?_
  refine r_iadd c288_842 ?_
  obtain ⟨s1, h⟩ := h
  refine r_iax c288_843 s1 ?_
  refine r_aload_n c288_844 rfl ?_
  refine r_iload c288_845 rfl ?_
  refine r_iconst c288_847 ?_
  refine r_iadd c288_848 ?_
  obtain ⟨s2, h⟩ := h
  refine r_iax c288_849 s2 ?_
  refine r_aload_n c288_850 rfl ?_
  refine r_iload c288_851 rfl ?_
  refine r_iconst c288_853 ?_
  refine r_iadd c288_854 ?_
  obtain ⟨s3, h⟩ := h
  refine r_iax c288_855 s3 ?_
  refine r_aload_n c288_856 rfl ?_
  refine r_iload c288_857 rfl ?_
  refine r_iconst c288_859 ?_
  refine r_iadd c288_860 ?_
  obtain ⟨s4, h⟩ := h
  refine r_iax c288_861 s4 ?_
  refine r_aload_n c288_862 rfl ?_
  refine r_iload c288_863 rfl ?_
  refine r_iconst c288_865 ?_
  refine r_iadd c288_866 ?_
  obtain ⟨s5, h⟩ := h
  refine r_iax c288_867 s5 ?_
  refine r_aload_n c288_868 rfl ?_
  refine r_iload c288_869 rfl ?_
  refine r_bipush c288_871 ?_
  refine r_iadd c288_873 ?_
  obtain ⟨s6, h⟩ := h
  refine r_iax c288_874 s6 ?_
  refine r_aload_n c288_875 rfl ?_
  refine r_iload c288_876 rfl ?_
  refine r_bipush c288_878 ?_
  refine r_iadd c288_880 ?_
  obtain ⟨s7, h⟩ := h
  refine r_iax c288_881 s7 ?_
  refine r_aload_n c288_882 rfl ?_
  refine r_iload c288_883 rfl ?_
  refine r_bipush c288_885 ?_
  refine r_iadd c288_887 ?_
  obtain ⟨s8, h⟩ := h
  refine r_iax c288_888 s8 ?_
  obtain ⟨o9, h⟩ := h
  exact r_call c288_889 rfl rfl (Nat.le_of_ble_eq_true rfl) (okc_r rfl rfl (oK hK o9)) h
theorem u288_892 {d : Nat} {l0 : Nat} {l1 : Nat} {l2 : Nat} {l3 : Nat} {l4 : Int} {l5 : Int} {l6 : PV} {t0 : Int} {M : Mem} {K : KK} {Q : RR → Mem → KK → Prop} (hK : K.1 = 923) (hX : FX M)  (h : isO 923 l2 12 = true ∧ Wm d 151 [vR l2] M K (Bk d 288 895 898 151 [vR 31, vR l1, vR l2, vR l3, vI l4, vI l5, vI t0, vU] [] Q)) : Wp (d + 1) 288 892 [vR 31, vR l1, vR l2, vR l3, vI l4, vI l5, l6, vU] [vI t0] M K Q := by
  refine r_istore c288_892 (Nat.le_of_ble_eq_true rfl) ?_
  refine r_aload_n c288_894 rfl ?_
  obtain ⟨o1, h⟩ := h
  exact r_call c288_895 rfl rfl (Nat.le_of_ble_eq_true rfl) (okc_r rfl rfl (oK hK o1)) h
theorem u288_898 {d : Nat} {l0 : Nat} {l1 : Nat} {l2 : Nat} {l3 : Nat} {l4 : Int} {l5 : Int} {l6 : Int} {t0 : Int} {M : Mem} {K : KK} {Q : RR → Mem → KK → Prop} (hK : K.1 = 923) (hX : FX M)  (h : (t0 = l5 → (¬ l5 = (0 : Int) → Wp (d + 1) 288 2445 [vR 31, vR l1, vR l2, vR l3, vI l4, vI l5, vI l6, vU] [] M K Q) ∧ (l5 = (0 : Int) → isO 923 l3 22 = true ∧ (0 ≤ (0 : Int) ∧ (0 : Int) < (ln l3 : Int)) ∧ ((jcmp (M l3 0) l6) = (0 : Int) → Wp (d + 1) 288 2445 [vR 31, vR l1, vR l2, vR l3, vI l4, vI l5, vI l6, vU] [] M K Q) ∧ (¬ ((jcmp (M l3 0) l6) = (0 : Int)) → Q (.inl (some (vI (0 : Int)))) M K))) ∧ (¬ (t0 = l5) → Q (.inl (some (vI (0 : Int)))) M K)) : Wp (d + 1) 288 898 [vR 31, vR l1, vR l2, vR l3, vI l4, vI l5, vI l6, vU] [vI t0] M K Q := by
  refine r_iload c288_898 rfl ?_
  refine r_icmpP (P := t0 = l5) c288_900 rfl (fun hc1 => ?_) (fun hc1 => ?_)
  · replace h := h.1 hc1
    refine r_iload c288_905 rfl ?_
    refine r_ifP (P := ¬ l5 = (0 : Int)) c288_907 rfl (fun hc2 => ?_) (fun hc2 => ?_)
    · replace h := h.1 hc2
      refine r_goto c288_922 ?_
      exact h
    · have hc3 := Classical.not_not.mp hc2
      replace h := h.2 hc3
      refine r_aload_n c288_910 rfl ?_
      refine r_iconst c288_911 ?_
      obtain ⟨o4, h⟩ := h
      obtain ⟨s5, h⟩ := h
      refine r_lae c288_912 (oK hK o4) s5 rfl ?_
      refine r_iload c288_913 rfl ?_
      refine r_i2l c288_915 ?_
      refine r_lcmp c288_916 ?_
      refine r_ifP (P := (jcmp (M l3 0) l6) = (0 : Int)) c288_917 rfl (fun hc6 => ?_) (fun hc6 => ?_)
      · replace h := h.1 hc6
        refine r_goto c288_922 ?_
        exact h
      · replace h := h.2 hc6
        refine r_iconst c288_920 ?_
        exact r_iret c288_921 (by decide) h
  · replace h := h.2 hc1
    refine r_iconst c288_903 ?_
    exact r_iret c288_904 (by decide) h
theorem u288_925 {d : Nat} {l0 : Nat} {l1 : Nat} {l2 : Nat} {l3 : Nat} {l4 : Int} {l5 : PV} {l6 : PV} {M : Mem} {K : KK} {Q : RR → Mem → KK → Prop} (hK : K.1 = 923) (hX : FX M)  (h : (0 ≤ (w32 (l4 + (1 : Int))) ∧ (w32 (l4 + (1 : Int))) < M 30 0) ∧ (0 ≤ (w32 (l4 + (2 : Int))) ∧ (w32 (l4 + (2 : Int))) < M 30 0) ∧ Wm d 268 [vR l1, vI (M 31 (Int.toNat (w32 (l4 + (1 : Int))))), vI (M 31 (Int.toNat (w32 (l4 + (2 : Int))))), vR l3] M K (Bk d 288 939 942 268 [vR 31, vR l1, vR l2, vR l3, vI l4, l5, l6, vU] [] Q)) : Wp (d + 1) 288 925 [vR 31, vR l1, vR l2, vR l3, vI l4, l5, l6, vU] [] M K Q := by
  refine r_aload_n c288_925 rfl ?_
  refine r_aload_n c288_926 rfl ?_
  refine r_iload c288_927 rfl ?_
  refine r_iconst c288_929 ?_
  refine r_iadd c288_930 ?_
  obtain ⟨s1, h⟩ := h
  refine r_iax c288_931 s1 ?_
  refine r_aload_n c288_932 rfl ?_
  refine r_iload c288_933 rfl ?_
  refine r_iconst c288_935 ?_
  refine r_iadd c288_936 ?_
  obtain ⟨s2, h⟩ := h
  refine r_iax c288_937 s2 ?_
  refine r_aload_n c288_938 rfl ?_
  exact r_call c288_939 rfl rfl (Nat.le_of_ble_eq_true rfl) (okc_s rfl rfl rfl) h
theorem u288_942 {d : Nat} {l0 : Nat} {l1 : Nat} {l2 : Nat} {l3 : Nat} {l4 : Int} {l5 : PV} {l6 : PV} {t0 : Int} {M : Mem} {K : KK} {Q : RR → Mem → KK → Prop} (hK : K.1 = 923) (hX : FX M)  (h : (0 ≤ (w32 (l4 + (1 : Int))) ∧ (w32 (l4 + (1 : Int))) < M 30 0) ∧ (0 ≤ (w32 (l4 + (2 : Int))) ∧ (w32 (l4 + (2 : Int))) < M 30 0) ∧ isO 923 l2 12 = true ∧ Wm d 214 [vR l2, vI (M 31 (Int.toNat (w32 (l4 + (1 : Int))))), vI (M 31 (Int.toNat (w32 (l4 + (2 : Int)))))] M K (Bk d 288 957 960 214 [vR 31, vR l1, vR l2, vR l3, vI l4, vI t0, l6, vU] [] Q)) : Wp (d + 1) 288 942 [vR 31, vR l1, vR l2, vR l3, vI l4, l5, l6, vU] [vI t0] M K Q := by
  refine r_istore c288_942 (Nat.le_of_ble_eq_true rfl) ?_
  refine r_aload_n c288_944 rfl ?_
  refine r_aload_n c288_945 rfl ?_
  refine r_iload c288_946 rfl ?_
  refine r_iconst c288_948 ?_
  refine r_iadd c288_949 ?_
  obtain ⟨s1, h⟩ := h
  refine r_iax c288_950 s1 ?_
  refine r_aload_n c288_951 rfl ?_
  refine r_iload c288_952 rfl ?_
  refine r_iconst c288_954 ?_
  refine r_iadd c288_955 ?_
  obtain ⟨s2, h⟩ := h
  refine r_iax c288_956 s2 ?_
  obtain ⟨o3, h⟩ := h
  exact r_call c288_957 rfl rfl (Nat.le_of_ble_eq_true rfl) (okc_r rfl rfl (oK hK o3)) h
theorem u288_960 {d : Nat} {l0 : Nat} {l1 : Nat} {l2 : Nat} {l3 : Nat} {l4 : Int} {l5 : Int} {l6 : PV} {t0 : Int} {M : Mem} {K : KK} {Q : RR → Mem → KK → Prop} (hK : K.1 = 923) (hX : FX M)  (h : isO 923 l2 12 = true ∧ Wm d 151 [vR l2] M K (Bk d 288 963 966 151 [vR 31, vR l1, vR l2, vR l3, vI l4, vI l5, vI t0, vU] [] Q)) : Wp (d + 1) 288 960 [vR 31, vR l1, vR l2, vR l3, vI l4, vI l5, l6, vU] [vI t0] M K Q := by
  refine r_istore c288_960 (Nat.le_of_ble_eq_true rfl) ?_
  refine r_aload_n c288_962 rfl ?_
  obtain ⟨o1, h⟩ := h
  exact r_call c288_963 rfl rfl (Nat.le_of_ble_eq_true rfl) (okc_r rfl rfl (oK hK o1)) h
theorem u288_966 {d : Nat} {l0 : Nat} {l1 : Nat} {l2 : Nat} {l3 : Nat} {l4 : Int} {l5 : Int} {l6 : Int} {t0 : Int} {M : Mem} {K : KK} {Q : RR → Mem → KK → Prop} (hK : K.1 = 923) (hX : FX M)  (h : (t0 = l5 → (¬ l5 = (0 : Int) → Wp (d + 1) 288 2445 [vR 31, vR l1, vR l2, vR l3, vI l4, vI l5, vI l6, vU] [] M K Q) ∧ (l5 = (0 : Int) → isO 923 l3 22 = true ∧ (0 ≤ (0 : Int) ∧ (0 : Int) < (ln l3 : Int)) ∧ (l6 = (0 : Int) → ((jcmp (M l3 0) (0 : Int)) = (0 : Int) → Wp (d + 1) 288 2445 [vR 31, vR l1, vR l2, vR l3, vI l4, vI l5, vI l6, vU] [] M K Q) ∧ (¬ ((jcmp (M l3 0) (0 : Int)) = (0 : Int)) → Q (.inl (some (vI (0 : Int)))) M K)) ∧ (¬ (l6 = (0 : Int)) → ((jcmp (M l3 0) (1 : Int)) = (0 : Int) → Wp (d + 1) 288 2445 [vR 31, vR l1, vR l2, vR l3, vI l4, vI l5, vI l6, vU] [] M K Q) ∧ (¬ ((jcmp (M l3 0) (1 : Int)) = (0 : Int)) → Q (.inl (some (vI (0 : Int)))) M K)))) ∧ (¬ (t0 = l5) → Q (.inl (some (vI (0 : Int)))) M K)) : Wp (d + 1) 288 966 [vR 31, vR l1, vR l2, vR l3, vI l4, vI l5, vI l6, vU] [vI t0] M K Q := by
  refine r_iload c288_966 rfl ?_
  refine r_icmpP (P := t0 = l5) c288_968 rfl (fun hc1 => ?_) (fun hc1 => ?_)
  · replace h := h.1 hc1
    refine r_iload c288_973 rfl ?_
    refine r_ifP (P := ¬ l5 = (0 : Int)) c288_975 rfl (fun hc2 => ?_) (fun hc2 => ?_)
    · replace h := h.1 hc2
      refine r_goto c288_997 ?_
      exact h
    · have hc3 := Classical.not_not.mp hc2
      replace h := h.2 hc3
      refine r_aload_n c288_978 rfl ?_
      refine r_iconst c288_979 ?_
      obtain ⟨o4, h⟩ := h
      obtain ⟨s5, h⟩ := h
      refine r_lae c288_980 (oK hK o4) s5 rfl ?_
      refine r_iload c288_981 rfl ?_
      refine r_ifP (P := l6 = (0 : Int)) c288_983 rfl (fun hc6 => ?_) (fun hc6 => ?_)
      · replace h := h.1 hc6
        refine r_lconst c288_990 ?_
        refine r_lcmp c288_991 ?_
        refine r_ifP (P := (jcmp (M l3 0) (0 : Int)) = (0 : Int)) c288_992 rfl (fun hc7 => ?_) (fun hc7 => ?_)
        · replace h := h.1 hc7
          refine r_goto c288_997 ?_
          exact h
        · replace h := h.2 hc7
          refine r_iconst c288_995 ?_
          exact r_iret c288_996 (by decide) h
      · replace h := h.2 hc6
        refine r_lconst c288_986 ?_
        refine r_goto c288_987 ?_
        refine r_lcmp c288_991 ?_
        refine r_ifP (P := (jcmp (M l3 0) (1 : Int)) = (0 : Int)) c288_992 rfl (fun hc8 => ?_) (fun hc8 => ?_)
        · replace h := h.1 hc8
          refine r_goto c288_997 ?_
          exact h
        · replace h := h.2 hc8
          refine r_iconst c288_995 ?_
          exact r_iret c288_996 (by decide) h
  · replace h := h.2 hc1
    refine r_iconst c288_971 ?_
    exact r_iret c288_972 (by decide) h
theorem u288_1000 {d : Nat} {l0 : Nat} {l1 : Nat} {l2 : Nat} {l3 : Nat} {l4 : Int} {l5 : PV} {l6 : PV} {M : Mem} {K : KK} {Q : RR → Mem → KK → Prop} (hK : K.1 = 923) (hX : FX M)  (h : (0 ≤ (w32 (l4 + (1 : Int))) ∧ (w32 (l4 + (1 : Int))) < M 30 0) ∧ (0 ≤ (w32 (l4 + (2 : Int))) ∧ (w32 (l4 + (2 : Int))) < M 30 0) ∧ Wm d 269 [vR l1, vI (M 31 (Int.toNat (w32 (l4 + (1 : Int))))), vI (M 31 (Int.toNat (w32 (l4 + (2 : Int))))), vR l3] M K (Bk d 288 1014 1017 269 [vR 31, vR l1, vR l2, vR l3, vI l4, l5, l6, vU] [] Q)) : Wp (d + 1) 288 1000 [vR 31, vR l1, vR l2, vR l3, vI l4, l5, l6, vU] [] M K Q := by
  refine r_aload_n c288_1000 rfl ?_
  refine r_aload_n c288_1001 rfl ?_
  refine r_iload c288_1002 rfl ?_
  refine r_iconst c288_1004 ?_
  refine r_iadd c288_1005 ?_
  obtain ⟨s1, h⟩ := h
  refine r_iax c288_1006 s1 ?_
  refine r_aload_n c288_1007 rfl ?_
  refine r_iload c288_1008 rfl ?_
  refine r_iconst c288_1010 ?_
  refine r_iadd c288_1011 ?_
  obtain ⟨s2, h⟩ := h
  refine r_iax c288_1012 s2 ?_
  refine r_aload_n c288_1013 rfl ?_
  exact r_call c288_1014 rfl rfl (Nat.le_of_ble_eq_true rfl) (okc_s rfl rfl rfl) h
theorem u288_1017 {d : Nat} {l0 : Nat} {l1 : Nat} {l2 : Nat} {l3 : Nat} {l4 : Int} {l5 : PV} {l6 : PV} {t0 : Int} {M : Mem} {K : KK} {Q : RR → Mem → KK → Prop} (hK : K.1 = 923) (hX : FX M)  (h : (0 ≤ (w32 (l4 + (1 : Int))) ∧ (w32 (l4 + (1 : Int))) < M 30 0) ∧ (0 ≤ (w32 (l4 + (2 : Int))) ∧ (w32 (l4 + (2 : Int))) < M 30 0) ∧ isO 923 l2 12 = true ∧ Wm d 215 [vR l2, vI (M 31 (Int.toNat (w32 (l4 + (1 : Int))))), vI (M 31 (Int.toNat (w32 (l4 + (2 : Int)))))] M K (Bk d 288 1032 1035 215 [vR 31, vR l1, vR l2, vR l3, vI l4, vI t0, l6, vU] [] Q)) : Wp (d + 1) 288 1017 [vR 31, vR l1, vR l2, vR l3, vI l4, l5, l6, vU] [vI t0] M K Q := by
  refine r_istore c288_1017 (Nat.le_of_ble_eq_true rfl) ?_
  refine r_aload_n c288_1019 rfl ?_
  refine r_aload_n c288_1020 rfl ?_
  refine r_iload c288_1021 rfl ?_
  refine r_iconst c288_1023 ?_
  refine r_iadd c288_1024 ?_
  obtain ⟨s1, h⟩ := h
  refine r_iax c288_1025 s1 ?_
  refine r_aload_n c288_1026 rfl ?_
  refine r_iload c288_1027 rfl ?_
  refine r_iconst c288_1029 ?_
  refine r_iadd c288_1030 ?_
  obtain ⟨s2, h⟩ := h
  refine r_iax c288_1031 s2 ?_
  obtain ⟨o3, h⟩ := h
  exact r_call c288_1032 rfl rfl (Nat.le_of_ble_eq_true rfl) (okc_r rfl rfl (oK hK o3)) h
theorem u288_1035 {d : Nat} {l0 : Nat} {l1 : Nat} {l2 : Nat} {l3 : Nat} {l4 : Int} {l5 : Int} {l6 : PV} {t0 : Int} {M : Mem} {K : KK} {Q : RR → Mem → KK → Prop} (hK : K.1 = 923) (hX : FX M)  (h : isO 923 l2 12 = true ∧ Wm d 151 [vR l2] M K (Bk d 288 1038 1041 151 [vR 31, vR l1, vR l2, vR l3, vI l4, vI l5, vI t0, vU] [] Q)) : Wp (d + 1) 288 1035 [vR 31, vR l1, vR l2, vR l3, vI l4, vI l5, l6, vU] [vI t0] M K Q := by
  refine r_istore c288_1035 (Nat.le_of_ble_eq_true rfl) ?_
  refine r_aload_n c288_1037 rfl ?_
  obtain ⟨o1, h⟩ := h
  exact r_call c288_1038 rfl rfl (Nat.le_of_ble_eq_true rfl) (okc_r rfl rfl (oK hK o1)) h
theorem u288_1041 {d : Nat} {l0 : Nat} {l1 : Nat} {l2 : Nat} {l3 : Nat} {l4 : Int} {l5 : Int} {l6 : Int} {t0 : Int} {M : Mem} {K : KK} {Q : RR → Mem → KK → Prop} (hK : K.1 = 923) (hX : FX M)  (h : (t0 = l5 → (¬ l5 = (0 : Int) → Wp (d + 1) 288 2445 [vR 31, vR l1, vR l2, vR l3, vI l4, vI l5, vI l6, vU] [] M K Q) ∧ (l5 = (0 : Int) → isO 923 l3 22 = true ∧ (0 ≤ (0 : Int) ∧ (0 : Int) < (ln l3 : Int)) ∧ ((jcmp (M l3 0) l6) = (0 : Int) → Wp (d + 1) 288 2445 [vR 31, vR l1, vR l2, vR l3, vI l4, vI l5, vI l6, vU] [] M K Q) ∧ (¬ ((jcmp (M l3 0) l6) = (0 : Int)) → Q (.inl (some (vI (0 : Int)))) M K))) ∧ (¬ (t0 = l5) → Q (.inl (some (vI (0 : Int)))) M K)) : Wp (d + 1) 288 1041 [vR 31, vR l1, vR l2, vR l3, vI l4, vI l5, vI l6, vU] [vI t0] M K Q := by
  refine r_iload c288_1041 rfl ?_
  refine r_icmpP (P := t0 = l5) c288_1043 rfl (fun hc1 => ?_) (fun hc1 => ?_)
  · replace h := h.1 hc1
    refine r_iload c288_1048 rfl ?_
    refine r_ifP (P := ¬ l5 = (0 : Int)) c288_1050 rfl (fun hc2 => ?_) (fun hc2 => ?_)
    · replace h := h.1 hc2
      refine r_goto c288_1065 ?_
      exact h
    · have hc3 := Classical.not_not.mp hc2
      replace h := h.2 hc3
      refine r_aload_n c288_1053 rfl ?_
      refine r_iconst c288_1054 ?_
      obtain ⟨o4, h⟩ := h
      obtain ⟨s5, h⟩ := h
      refine r_lae c288_1055 (oK hK o4) s5 rfl ?_
      refine r_iload c288_1056 rfl ?_
      refine r_i2l c288_1058 ?_
      refine r_lcmp c288_1059 ?_
      refine r_ifP (P := (jcmp (M l3 0) l6) = (0 : Int)) c288_1060 rfl (fun hc6 => ?_) (fun hc6 => ?_)
      · replace h := h.1 hc6
        refine r_goto c288_1065 ?_
        exact h
      · replace h := h.2 hc6
        refine r_iconst c288_1063 ?_
        exact r_iret c288_1064 (by decide) h
  · replace h := h.2 hc1
    refine r_iconst c288_1046 ?_
    exact r_iret c288_1047 (by decide) h
theorem u288_1068 {d : Nat} {l0 : Nat} {l1 : Nat} {l2 : Nat} {l3 : Nat} {l4 : Int} {l5 : PV} {l6 : PV} {M : Mem} {K : KK} {Q : RR → Mem → KK → Prop} (hK : K.1 = 923) (hX : FX M)  (h : (0 ≤ (w32 (l4 + (1 : Int))) ∧ (w32 (l4 + (1 : Int))) < M 30 0) ∧ Wm d 270 [vR l1, vI (M 31 (Int.toNat (w32 (l4 + (1 : Int))))), vR l3] M K (Bk d 288 1076 1079 270 [vR 31, vR l1, vR l2, vR l3, vI l4, l5, l6, vU] [] Q)) : Wp (d + 1) 288 1068 [vR 31, vR l1, vR l2, vR l3, vI l4, l5, l6, vU] [] M K Q := by
  refine r_aload_n c288_1068 rfl ?_
  refine r_aload_n c288_1069 rfl ?_
  refine r_iload c288_1070 rfl ?_
  refine r_iconst c288_1072 ?_
  refine r_iadd c288_1073 ?_
  obtain ⟨s1, h⟩ := h
  refine r_iax c288_1074 s1 ?_
  refine r_aload_n c288_1075 rfl ?_
  exact r_call c288_1076 rfl rfl (Nat.le_of_ble_eq_true rfl) (okc_s rfl rfl rfl) h
theorem u288_1079 {d : Nat} {l0 : Nat} {l1 : Nat} {l2 : Nat} {l3 : Nat} {l4 : Int} {l5 : PV} {l6 : PV} {t0 : Int} {M : Mem} {K : KK} {Q : RR → Mem → KK → Prop} (hK : K.1 = 923) (hX : FX M)  (h : (0 ≤ (w32 (l4 + (1 : Int))) ∧ (w32 (l4 + (1 : Int))) < M 30 0) ∧ isO 923 l2 12 = true ∧ Wm d 216 [vR l2, vI (M 31 (Int.toNat (w32 (l4 + (1 : Int)))))] M K (Bk d 288 1088 1091 216 [vR 31, vR l1, vR l2, vR l3, vI l4, vI t0, l6, vU] [] Q)) : Wp (d + 1) 288 1079 [vR 31, vR l1, vR l2, vR l3, vI l4, l5, l6, vU] [vI t0] M K Q := by
  refine r_istore c288_1079 (Nat.le_of_ble_eq_true rfl) ?_
  refine r_aload_n c288_1081 rfl ?_
  refine r_aload_n c288_1082 rfl ?_
  refine r_iload c288_1083 rfl ?_
  refine r_iconst c288_1085 ?_
  refine r_iadd c288_1086 ?_
  obtain ⟨s1, h⟩ := h
  refine r_iax c288_1087 s1 ?_
  obtain ⟨o2, h⟩ := h
  exact r_call c288_1088 rfl rfl (Nat.le_of_ble_eq_true rfl) (okc_r rfl rfl (oK hK o2)) h
theorem u288_1091 {d : Nat} {l0 : Nat} {l1 : Nat} {l2 : Nat} {l3 : Nat} {l4 : Int} {l5 : Int} {l6 : PV} {t0 : Int} {M : Mem} {K : KK} {Q : RR → Mem → KK → Prop} (hK : K.1 = 923) (hX : FX M)  (h : isO 923 l2 12 = true ∧ Wm d 151 [vR l2] M K (Bk d 288 1094 1097 151 [vR 31, vR l1, vR l2, vR l3, vI l4, vI l5, vI t0, vU] [] Q)) : Wp (d + 1) 288 1091 [vR 31, vR l1, vR l2, vR l3, vI l4, vI l5, l6, vU] [vI t0] M K Q := by
  refine r_istore c288_1091 (Nat.le_of_ble_eq_true rfl) ?_
  refine r_aload_n c288_1093 rfl ?_
  obtain ⟨o1, h⟩ := h
  exact r_call c288_1094 rfl rfl (Nat.le_of_ble_eq_true rfl) (okc_r rfl rfl (oK hK o1)) h
theorem u288_1097 {d : Nat} {l0 : Nat} {l1 : Nat} {l2 : Nat} {l3 : Nat} {l4 : Int} {l5 : Int} {l6 : Int} {t0 : Int} {M : Mem} {K : KK} {Q : RR → Mem → KK → Prop} (hK : K.1 = 923) (hX : FX M)  (h : (t0 = l5 → (¬ l5 = (0 : Int) → Wp (d + 1) 288 2445 [vR 31, vR l1, vR l2, vR l3, vI l4, vI l5, vI l6, vU] [] M K Q) ∧ (l5 = (0 : Int) → isO 923 l3 22 = true ∧ (0 ≤ (0 : Int) ∧ (0 : Int) < (ln l3 : Int)) ∧ ((jcmp (M l3 0) l6) = (0 : Int) → Wp (d + 1) 288 2445 [vR 31, vR l1, vR l2, vR l3, vI l4, vI l5, vI l6, vU] [] M K Q) ∧ (¬ ((jcmp (M l3 0) l6) = (0 : Int)) → Q (.inl (some (vI (0 : Int)))) M K))) ∧ (¬ (t0 = l5) → Q (.inl (some (vI (0 : Int)))) M K)) : Wp (d + 1) 288 1097 [vR 31, vR l1, vR l2, vR l3, vI l4, vI l5, vI l6, vU] [vI t0] M K Q := by
  refine r_iload c288_1097 rfl ?_
  refine r_icmpP (P := t0 = l5) c288_1099 rfl (fun hc1 => ?_) (fun hc1 => ?_)
  · replace h := h.1 hc1
    refine r_iload c288_1104 rfl ?_
    refine r_ifP (P := ¬ l5 = (0 : Int)) c288_1106 rfl (fun hc2 => ?_) (fun hc2 => ?_)
    · replace h := h.1 hc2
      refine r_goto c288_1121 ?_
      exact h
    · have hc3 := Classical.not_not.mp hc2
      replace h := h.2 hc3
      refine r_aload_n c288_1109 rfl ?_
      refine r_iconst c288_1110 ?_
      obtain ⟨o4, h⟩ := h
      obtain ⟨s5, h⟩ := h
      refine r_lae c288_1111 (oK hK o4) s5 rfl ?_
      refine r_iload c288_1112 rfl ?_
      refine r_i2l c288_1114 ?_
      refine r_lcmp c288_1115 ?_
      refine r_ifP (P := (jcmp (M l3 0) l6) = (0 : Int)) c288_1116 rfl (fun hc6 => ?_) (fun hc6 => ?_)
      · replace h := h.1 hc6
        refine r_goto c288_1121 ?_
        exact h
      · replace h := h.2 hc6
        refine r_iconst c288_1119 ?_
        exact r_iret c288_1120 (by decide) h
  · replace h := h.2 hc1
    refine r_iconst c288_1102 ?_
    exact r_iret c288_1103 (by decide) h
theorem u288_1124 {d : Nat} {l0 : Nat} {l1 : Nat} {l2 : Nat} {l3 : Nat} {l4 : Int} {l5 : PV} {l6 : PV} {M : Mem} {K : KK} {Q : RR → Mem → KK → Prop} (hK : K.1 = 923) (hX : FX M)  (h : (0 ≤ (w32 (l4 + (1 : Int))) ∧ (w32 (l4 + (1 : Int))) < M 30 0) ∧ Wm d 271 [vR l1, vI (M 31 (Int.toNat (w32 (l4 + (1 : Int))))), vR l3] M K (Bk d 288 1132 1135 271 [vR 31, vR l1, vR l2, vR l3, vI l4, l5, l6, vU] [] Q)) : Wp (d + 1) 288 1124 [vR 31, vR l1, vR l2, vR l3, vI l4, l5, l6, vU] [] M K Q := by
  refine r_aload_n c288_1124 rfl ?_
  refine r_aload_n c288_1125 rfl ?_
  refine r_iload c288_1126 rfl ?_
  refine r_iconst c288_1128 ?_
  refine r_iadd c288_1129 ?_
  obtain ⟨s1, h⟩ := h
  refine r_iax c288_1130 s1 ?_
  refine r_aload_n c288_1131 rfl ?_
  exact r_call c288_1132 rfl rfl (Nat.le_of_ble_eq_true rfl) (okc_s rfl rfl rfl) h
theorem u288_1135 {d : Nat} {l0 : Nat} {l1 : Nat} {l2 : Nat} {l3 : Nat} {l4 : Int} {l5 : PV} {l6 : PV} {t0 : Int} {M : Mem} {K : KK} {Q : RR → Mem → KK → Prop} (hK : K.1 = 923) (hX : FX M)  (h : (0 ≤ (w32 (l4 + (1 : Int))) ∧ (w32 (l4 + (1 : Int))) < M 30 0) ∧ isO 923 l2 12 = true ∧ Wm d 220 [vR l2, vI (M 31 (Int.toNat (w32 (l4 + (1 : Int)))))] M K (Bk d 288 1144 1147 220 [vR 31, vR l1, vR l2, vR l3, vI l4, vI t0, l6, vU] [] Q)) : Wp (d + 1) 288 1135 [vR 31, vR l1, vR l2, vR l3, vI l4, l5, l6, vU] [vI t0] M K Q := by
  refine r_istore c288_1135 (Nat.le_of_ble_eq_true rfl) ?_
  refine r_aload_n c288_1137 rfl ?_
  refine r_aload_n c288_1138 rfl ?_
  refine r_iload c288_1139 rfl ?_
  refine r_iconst c288_1141 ?_
  refine r_iadd c288_1142 ?_
  obtain ⟨s1, h⟩ := h
  refine r_iax c288_1143 s1 ?_
  obtain ⟨o2, h⟩ := h
  exact r_call c288_1144 rfl rfl (Nat.le_of_ble_eq_true rfl) (okc_r rfl rfl (oK hK o2)) h
theorem u288_1147 {d : Nat} {l0 : Nat} {l1 : Nat} {l2 : Nat} {l3 : Nat} {l4 : Int} {l5 : Int} {l6 : PV} {t0 : Int} {M : Mem} {K : KK} {Q : RR → Mem → KK → Prop} (hK : K.1 = 923) (hX : FX M)  (h : isO 923 l2 12 = true ∧ Wm d 151 [vR l2] M K (Bk d 288 1150 1153 151 [vR 31, vR l1, vR l2, vR l3, vI l4, vI l5, vI t0, vU] [] Q)) : Wp (d + 1) 288 1147 [vR 31, vR l1, vR l2, vR l3, vI l4, vI l5, l6, vU] [vI t0] M K Q := by
  refine r_istore c288_1147 (Nat.le_of_ble_eq_true rfl) ?_
  refine r_aload_n c288_1149 rfl ?_
  obtain ⟨o1, h⟩ := h
  exact r_call c288_1150 rfl rfl (Nat.le_of_ble_eq_true rfl) (okc_r rfl rfl (oK hK o1)) h
theorem u288_1153 {d : Nat} {l0 : Nat} {l1 : Nat} {l2 : Nat} {l3 : Nat} {l4 : Int} {l5 : Int} {l6 : Int} {t0 : Int} {M : Mem} {K : KK} {Q : RR → Mem → KK → Prop} (hK : K.1 = 923) (hX : FX M)  (h : (t0 = l5 → (¬ l5 = (0 : Int) → Wp (d + 1) 288 2445 [vR 31, vR l1, vR l2, vR l3, vI l4, vI l5, vI l6, vU] [] M K Q) ∧ (l5 = (0 : Int) → isO 923 l3 22 = true ∧ (0 ≤ (0 : Int) ∧ (0 : Int) < (ln l3 : Int)) ∧ ((jcmp (M l3 0) l6) = (0 : Int) → Wp (d + 1) 288 2445 [vR 31, vR l1, vR l2, vR l3, vI l4, vI l5, vI l6, vU] [] M K Q) ∧ (¬ ((jcmp (M l3 0) l6) = (0 : Int)) → Q (.inl (some (vI (0 : Int)))) M K))) ∧ (¬ (t0 = l5) → Q (.inl (some (vI (0 : Int)))) M K)) : Wp (d + 1) 288 1153 [vR 31, vR l1, vR l2, vR l3, vI l4, vI l5, vI l6, vU] [vI t0] M K Q := by
  refine r_iload c288_1153 rfl ?_
  refine r_icmpP (P := t0 = l5) c288_1155 rfl (fun hc1 => ?_) (fun hc1 => ?_)
  · replace h := h.1 hc1
    refine r_iload c288_1160 rfl ?_
    refine r_ifP (P := ¬ l5 = (0 : Int)) c288_1162 rfl (fun hc2 => ?_) (fun hc2 => ?_)
    · replace h := h.1 hc2
      refine r_goto c288_1177 ?_
      exact h
    · have hc3 := Classical.not_not.mp hc2
      replace h := h.2 hc3
      refine r_aload_n c288_1165 rfl ?_
      refine r_iconst c288_1166 ?_
      obtain ⟨o4, h⟩ := h
      obtain ⟨s5, h⟩ := h
      refine r_lae c288_1167 (oK hK o4) s5 rfl ?_
      refine r_iload c288_1168 rfl ?_
      refine r_i2l c288_1170 ?_
      refine r_lcmp c288_1171 ?_
      refine r_ifP (P := (jcmp (M l3 0) l6) = (0 : Int)) c288_1172 rfl (fun hc6 => ?_) (fun hc6 => ?_)
      · replace h := h.1 hc6
        refine r_goto c288_1177 ?_
        exact h
      · replace h := h.2 hc6
        refine r_iconst c288_1175 ?_
        exact r_iret c288_1176 (by decide) h
  · replace h := h.2 hc1
    refine r_iconst c288_1158 ?_
    exact r_iret c288_1159 (by decide) h
theorem u288_1180 {d : Nat} {l0 : Nat} {l1 : Nat} {l2 : Nat} {l3 : Nat} {l4 : Int} {l5 : PV} {l6 : PV} {M : Mem} {K : KK} {Q : RR → Mem → KK → Prop} (hK : K.1 = 923) (hX : FX M)  (h : (0 ≤ (w32 (l4 + (1 : Int))) ∧ (w32 (l4 + (1 : Int))) < M 30 0) ∧ (0 ≤ (w32 (l4 + (2 : Int))) ∧ (w32 (l4 + (2 : Int))) < M 30 0) ∧ Wm d 272 [vR l1, vI (M 31 (Int.toNat (w32 (l4 + (1 : Int))))), vI (M 31 (Int.toNat (w32 (l4 + (2 : Int))))), vR l3] M K (Bk d 288 1194 1197 272 [vR 31, vR l1, vR l2, vR l3, vI l4, l5, l6, vU] [] Q)) : Wp (d + 1) 288 1180 [vR 31, vR l1, vR l2, vR l3, vI l4, l5, l6, vU] [] M K Q := by
  refine r_aload_n c288_1180 rfl ?_
  refine r_aload_n c288_1181 rfl ?_
  refine r_iload c288_1182 rfl ?_
  refine r_iconst c288_1184 ?_
  refine r_iadd c288_1185 ?_
  obtain ⟨s1, h⟩ := h
  refine r_iax c288_1186 s1 ?_
  refine r_aload_n c288_1187 rfl ?_
  refine r_iload c288_1188 rfl ?_
  refine r_iconst c288_1190 ?_
  refine r_iadd c288_1191 ?_
  obtain ⟨s2, h⟩ := h
  refine r_iax c288_1192 s2 ?_
  refine r_aload_n c288_1193 rfl ?_
  exact r_call c288_1194 rfl rfl (Nat.le_of_ble_eq_true rfl) (okc_s rfl rfl rfl) h
theorem u288_1197 {d : Nat} {l0 : Nat} {l1 : Nat} {l2 : Nat} {l3 : Nat} {l4 : Int} {l5 : PV} {l6 : PV} {t0 : Int} {M : Mem} {K : KK} {Q : RR → Mem → KK → Prop} (hK : K.1 = 923) (hX : FX M)  (h : (0 ≤ (w32 (l4 + (1 : Int))) ∧ (w32 (l4 + (1 : Int))) < M 30 0) ∧ (0 ≤ (w32 (l4 + (2 : Int))) ∧ (w32 (l4 + (2 : Int))) < M 30 0) ∧ isO 923 l2 12 = true ∧ Wm d 221 [vR l2, vI (M 31 (Int.toNat (w32 (l4 + (1 : Int))))), vI (M 31 (Int.toNat (w32 (l4 + (2 : Int)))))] M K (Bk d 288 1212 1215 221 [vR 31, vR l1, vR l2, vR l3, vI l4, vI t0, l6, vU] [] Q)) : Wp (d + 1) 288 1197 [vR 31, vR l1, vR l2, vR l3, vI l4, l5, l6, vU] [vI t0] M K Q := by
  refine r_istore c288_1197 (Nat.le_of_ble_eq_true rfl) ?_
  refine r_aload_n c288_1199 rfl ?_
  refine r_aload_n c288_1200 rfl ?_
  refine r_iload c288_1201 rfl ?_
  refine r_iconst c288_1203 ?_
  refine r_iadd c288_1204 ?_
  obtain ⟨s1, h⟩ := h
  refine r_iax c288_1205 s1 ?_
  refine r_aload_n c288_1206 rfl ?_
  refine r_iload c288_1207 rfl ?_
  refine r_iconst c288_1209 ?_
  refine r_iadd c288_1210 ?_
  obtain ⟨s2, h⟩ := h
  refine r_iax c288_1211 s2 ?_
  obtain ⟨o3, h⟩ := h
  exact r_call c288_1212 rfl rfl (Nat.le_of_ble_eq_true rfl) (okc_r rfl rfl (oK hK o3)) h
theorem u288_1215 {d : Nat} {l0 : Nat} {l1 : Nat} {l2 : Nat} {l3 : Nat} {l4 : Int} {l5 : Int} {l6 : PV} {t0 : Int} {M : Mem} {K : KK} {Q : RR → Mem → KK → Prop} (hK : K.1 = 923) (hX : FX M)  (h : isO 923 l2 12 = true ∧ Wm d 151 [vR l2] M K (Bk d 288 1218 1221 151 [vR 31, vR l1, vR l2, vR l3, vI l4, vI l5, vI t0, vU] [] Q)) : Wp (d + 1) 288 1215 [vR 31, vR l1, vR l2, vR l3, vI l4, vI l5, l6, vU] [vI t0] M K Q := by
  refine r_istore c288_1215 (Nat.le_of_ble_eq_true rfl) ?_
  refine r_aload_n c288_1217 rfl ?_
  obtain ⟨o1, h⟩ := h
  exact r_call c288_1218 rfl rfl (Nat.le_of_ble_eq_true rfl) (okc_r rfl rfl (oK hK o1)) h
theorem u288_1221 {d : Nat} {l0 : Nat} {l1 : Nat} {l2 : Nat} {l3 : Nat} {l4 : Int} {l5 : Int} {l6 : Int} {t0 : Int} {M : Mem} {K : KK} {Q : RR → Mem → KK → Prop} (hK : K.1 = 923) (hX : FX M)  (h : (t0 = l5 → (¬ l5 = (0 : Int) → Wp (d + 1) 288 2445 [vR 31, vR l1, vR l2, vR l3, vI l4, vI l5, vI l6, vU] [] M K Q) ∧ (l5 = (0 : Int) → isO 923 l3 22 = true ∧ (0 ≤ (0 : Int) ∧ (0 : Int) < (ln l3 : Int)) ∧ ((jcmp (M l3 0) l6) = (0 : Int) → Wp (d + 1) 288 2445 [vR 31, vR l1, vR l2, vR l3, vI l4, vI l5, vI l6, vU] [] M K Q) ∧ (¬ ((jcmp (M l3 0) l6) = (0 : Int)) → Q (.inl (some (vI (0 : Int)))) M K))) ∧ (¬ (t0 = l5) → Q (.inl (some (vI (0 : Int)))) M K)) : Wp (d + 1) 288 1221 [vR 31, vR l1, vR l2, vR l3, vI l4, vI l5, vI l6, vU] [vI t0] M K Q := by
  refine r_iload c288_1221 rfl ?_
  refine r_icmpP (P := t0 = l5) c288_1223 rfl (fun hc1 => ?_) (fun hc1 => ?_)
  · replace h := h.1 hc1
    refine r_iload c288_1228 rfl ?_
    refine r_ifP (P := ¬ l5 = (0 : Int)) c288_1230 rfl (fun hc2 => ?_) (fun hc2 => ?_)
    · replace h := h.1 hc2
      refine r_goto c288_1245 ?_
      exact h
    · have hc3 := Classical.not_not.mp hc2
      replace h := h.2 hc3
      refine r_aload_n c288_1233 rfl ?_
      refine r_iconst c288_1234 ?_
      obtain ⟨o4, h⟩ := h
      obtain ⟨s5, h⟩ := h
      refine r_lae c288_1235 (oK hK o4) s5 rfl ?_
      refine r_iload c288_1236 rfl ?_
      refine r_i2l c288_1238 ?_
      refine r_lcmp c288_1239 ?_
      refine r_ifP (P := (jcmp (M l3 0) l6) = (0 : Int)) c288_1240 rfl (fun hc6 => ?_) (fun hc6 => ?_)
      · replace h := h.1 hc6
        refine r_goto c288_1245 ?_
        exact h
      · replace h := h.2 hc6
        refine r_iconst c288_1243 ?_
        exact r_iret c288_1244 (by decide) h
  · replace h := h.2 hc1
    refine r_iconst c288_1226 ?_
    exact r_iret c288_1227 (by decide) h
theorem u288_1248 {d : Nat} {l0 : Nat} {l1 : Nat} {l2 : Nat} {l3 : Nat} {l4 : Int} {l5 : PV} {l6 : PV} {M : Mem} {K : KK} {Q : RR → Mem → KK → Prop} (hK : K.1 = 923) (hX : FX M)  (h : (0 ≤ (w32 (l4 + (1 : Int))) ∧ (w32 (l4 + (1 : Int))) < M 30 0) ∧ Wm d 273 [vR l1, vI (M 31 (Int.toNat (w32 (l4 + (1 : Int))))), vR l3] M K (Bk d 288 1256 1259 273 [vR 31, vR l1, vR l2, vR l3, vI l4, l5, l6, vU] [] Q)) : Wp (d + 1) 288 1248 [vR 31, vR l1, vR l2, vR l3, vI l4, l5, l6, vU] [] M K Q := by
  refine r_aload_n c288_1248 rfl ?_
  refine r_aload_n c288_1249 rfl ?_
  refine r_iload c288_1250 rfl ?_
  refine r_iconst c288_1252 ?_
  refine r_iadd c288_1253 ?_
  obtain ⟨s1, h⟩ := h
  refine r_iax c288_1254 s1 ?_
  refine r_aload_n c288_1255 rfl ?_
  exact r_call c288_1256 rfl rfl (Nat.le_of_ble_eq_true rfl) (okc_s rfl rfl rfl) h
theorem u288_1259 {d : Nat} {l0 : Nat} {l1 : Nat} {l2 : Nat} {l3 : Nat} {l4 : Int} {l5 : PV} {l6 : PV} {t0 : Int} {M : Mem} {K : KK} {Q : RR → Mem → KK → Prop} (hK : K.1 = 923) (hX : FX M)  (h : (0 ≤ (w32 (l4 + (1 : Int))) ∧ (w32 (l4 + (1 : Int))) < M 30 0) ∧ isO 923 l2 12 = true ∧ Wm d 224 [vR l2, vI (M 31 (Int.toNat (w32 (l4 + (1 : Int)))))] M K (Bk d 288 1268 1271 224 [vR 31, vR l1, vR l2, vR l3, vI l4, vI t0, l6, vU] [] Q)) : Wp (d + 1) 288 1259 [vR 31, vR l1, vR l2, vR l3, vI l4, l5, l6, vU] [vI t0] M K Q := by
  refine r_istore c288_1259 (Nat.le_of_ble_eq_true rfl) ?_
  refine r_aload_n c288_1261 rfl ?_
  refine r_aload_n c288_1262 rfl ?_
  refine r_iload c288_1263 rfl ?_
  refine r_iconst c288_1265 ?_
  refine r_iadd c288_1266 ?_
  obtain ⟨s1, h⟩ := h
  refine r_iax c288_1267 s1 ?_
  obtain ⟨o2, h⟩ := h
  exact r_call c288_1268 rfl rfl (Nat.le_of_ble_eq_true rfl) (okc_r rfl rfl (oK hK o2)) h
theorem u288_1271 {d : Nat} {l0 : Nat} {l1 : Nat} {l2 : Nat} {l3 : Nat} {l4 : Int} {l5 : Int} {l6 : PV} {t0 : Int} {M : Mem} {K : KK} {Q : RR → Mem → KK → Prop} (hK : K.1 = 923) (hX : FX M)  (h : isO 923 l2 12 = true ∧ Wm d 151 [vR l2] M K (Bk d 288 1274 1277 151 [vR 31, vR l1, vR l2, vR l3, vI l4, vI l5, vI t0, vU] [] Q)) : Wp (d + 1) 288 1271 [vR 31, vR l1, vR l2, vR l3, vI l4, vI l5, l6, vU] [vI t0] M K Q := by
  refine r_istore c288_1271 (Nat.le_of_ble_eq_true rfl) ?_
  refine r_aload_n c288_1273 rfl ?_
  obtain ⟨o1, h⟩ := h
  exact r_call c288_1274 rfl rfl (Nat.le_of_ble_eq_true rfl) (okc_r rfl rfl (oK hK o1)) h
theorem u288_1277 {d : Nat} {l0 : Nat} {l1 : Nat} {l2 : Nat} {l3 : Nat} {l4 : Int} {l5 : Int} {l6 : Int} {t0 : Int} {M : Mem} {K : KK} {Q : RR → Mem → KK → Prop} (hK : K.1 = 923) (hX : FX M)  (h : (t0 = l5 → (¬ l5 = (0 : Int) → Wp (d + 1) 288 2445 [vR 31, vR l1, vR l2, vR l3, vI l4, vI l5, vI l6, vU] [] M K Q) ∧ (l5 = (0 : Int) → isO 923 l3 22 = true ∧ (0 ≤ (0 : Int) ∧ (0 : Int) < (ln l3 : Int)) ∧ ((jcmp (M l3 0) l6) = (0 : Int) → Wp (d + 1) 288 2445 [vR 31, vR l1, vR l2, vR l3, vI l4, vI l5, vI l6, vU] [] M K Q) ∧ (¬ ((jcmp (M l3 0) l6) = (0 : Int)) → Q (.inl (some (vI (0 : Int)))) M K))) ∧ (¬ (t0 = l5) → Q (.inl (some (vI (0 : Int)))) M K)) : Wp (d + 1) 288 1277 [vR 31, vR l1, vR l2, vR l3, vI l4, vI l5, vI l6, vU] [vI t0] M K Q := by
  refine r_iload c288_1277 rfl ?_
  refine r_icmpP (P := t0 = l5) c288_1279 rfl (fun hc1 => ?_) (fun hc1 => ?_)
  · replace h := h.1 hc1
    refine r_iload c288_1284 rfl ?_
    refine r_ifP (P := ¬ l5 = (0 : Int)) c288_1286 rfl (fun hc2 => ?_) (fun hc2 => ?_)
    · replace h := h.1 hc2
      refine r_goto c288_1301 ?_
      exact h
    · have hc3 := Classical.not_not.mp hc2
      replace h := h.2 hc3
      refine r_aload_n c288_1289 rfl ?_
      refine r_iconst c288_1290 ?_
      obtain ⟨o4, h⟩ := h
      obtain ⟨s5, h⟩ := h
      refine r_lae c288_1291 (oK hK o4) s5 rfl ?_
      refine r_iload c288_1292 rfl ?_
      refine r_i2l c288_1294 ?_
      refine r_lcmp c288_1295 ?_
      refine r_ifP (P := (jcmp (M l3 0) l6) = (0 : Int)) c288_1296 rfl (fun hc6 => ?_) (fun hc6 => ?_)
      · replace h := h.1 hc6
        refine r_goto c288_1301 ?_
        exact h
      · replace h := h.2 hc6
        refine r_iconst c288_1299 ?_
        exact r_iret c288_1300 (by decide) h
  · replace h := h.2 hc1
    refine r_iconst c288_1282 ?_
    exact r_iret c288_1283 (by decide) h
theorem u288_1304 {d : Nat} {l0 : Nat} {l1 : Nat} {l2 : Nat} {l3 : Nat} {l4 : Int} {l5 : PV} {l6 : PV} {M : Mem} {K : KK} {Q : RR → Mem → KK → Prop} (hK : K.1 = 923) (hX : FX M)  (h : (0 ≤ (w32 (l4 + (1 : Int))) ∧ (w32 (l4 + (1 : Int))) < M 30 0) ∧ (0 ≤ (w32 (l4 + (2 : Int))) ∧ (w32 (l4 + (2 : Int))) < M 30 0) ∧ Wm d 274 [vR l1, vI (M 31 (Int.toNat (w32 (l4 + (1 : Int))))), vI (M 31 (Int.toNat (w32 (l4 + (2 : Int))))), vR l3] M K (Bk d 288 1318 1321 274 [vR 31, vR l1, vR l2, vR l3, vI l4, l5, l6, vU] [] Q)) : Wp (d + 1) 288 1304 [vR 31, vR l1, vR l2, vR l3, vI l4, l5, l6, vU] [] M K Q := by
  refine r_aload_n c288_1304 rfl ?_
  refine r_aload_n c288_1305 rfl ?_
  refine r_iload c288_1306 rfl ?_
  refine r_iconst c288_1308 ?_
  refine r_iadd c288_1309 ?_
  obtain ⟨s1, h⟩ := h
  refine r_iax c288_1310 s1 ?_
  refine r_aload_n c288_1311 rfl ?_
  refine r_iload c288_1312 rfl ?_
  refine r_iconst c288_1314 ?_
  refine r_iadd c288_1315 ?_
  obtain ⟨s2, h⟩ := h
  refine r_iax c288_1316 s2 ?_
  refine r_aload_n c288_1317 rfl ?_
  exact r_call c288_1318 rfl rfl (Nat.le_of_ble_eq_true rfl) (okc_s rfl rfl rfl) h
theorem u288_1321 {d : Nat} {l0 : Nat} {l1 : Nat} {l2 : Nat} {l3 : Nat} {l4 : Int} {l5 : PV} {l6 : PV} {t0 : Int} {M : Mem} {K : KK} {Q : RR → Mem → KK → Prop} (hK : K.1 = 923) (hX : FX M)  (h : (0 ≤ (w32 (l4 + (1 : Int))) ∧ (w32 (l4 + (1 : Int))) < M 30 0) ∧ (0 ≤ (w32 (l4 + (2 : Int))) ∧ (w32 (l4 + (2 : Int))) < M 30 0) ∧ isO 923 l2 12 = true ∧ Wm d 225 [vR l2, vI (M 31 (Int.toNat (w32 (l4 + (1 : Int))))), vI (M 31 (Int.toNat (w32 (l4 + (2 : Int)))))] M K (Bk d 288 1336 1339 225 [vR 31, vR l1, vR l2, vR l3, vI l4, vI t0, l6, vU] [] Q)) : Wp (d + 1) 288 1321 [vR 31, vR l1, vR l2, vR l3, vI l4, l5, l6, vU] [vI t0] M K Q := by
  refine r_istore c288_1321 (Nat.le_of_ble_eq_true rfl) ?_
  refine r_aload_n c288_1323 rfl ?_
  refine r_aload_n c288_1324 rfl ?_
  refine r_iload c288_1325 rfl ?_
  refine r_iconst c288_1327 ?_
  refine r_iadd c288_1328 ?_
  obtain ⟨s1, h⟩ := h
  refine r_iax c288_1329 s1 ?_
  refine r_aload_n c288_1330 rfl ?_
  refine r_iload c288_1331 rfl ?_
  refine r_iconst c288_1333 ?_
  refine r_iadd c288_1334 ?_
  obtain ⟨s2, h⟩ := h
  refine r_iax c288_1335 s2 ?_
  obtain ⟨o3, h⟩ := h
  exact r_call c288_1336 rfl rfl (Nat.le_of_ble_eq_true rfl) (okc_r rfl rfl (oK hK o3)) h
theorem u288_1339 {d : Nat} {l0 : Nat} {l1 : Nat} {l2 : Nat} {l3 : Nat} {l4 : Int} {l5 : Int} {l6 : PV} {t0 : Int} {M : Mem} {K : KK} {Q : RR → Mem → KK → Prop} (hK : K.1 = 923) (hX : FX M)  (h : isO 923 l2 12 = true ∧ Wm d 151 [vR l2] M K (Bk d 288 1342 1345 151 [vR 31, vR l1, vR l2, vR l3, vI l4, vI l5, vI t0, vU] [] Q)) : Wp (d + 1) 288 1339 [vR 31, vR l1, vR l2, vR l3, vI l4, vI l5, l6, vU] [vI t0] M K Q := by
  refine r_istore c288_1339 (Nat.le_of_ble_eq_true rfl) ?_
  refine r_aload_n c288_1341 rfl ?_
  obtain ⟨o1, h⟩ := h
  exact r_call c288_1342 rfl rfl (Nat.le_of_ble_eq_true rfl) (okc_r rfl rfl (oK hK o1)) h
theorem u288_1345 {d : Nat} {l0 : Nat} {l1 : Nat} {l2 : Nat} {l3 : Nat} {l4 : Int} {l5 : Int} {l6 : Int} {t0 : Int} {M : Mem} {K : KK} {Q : RR → Mem → KK → Prop} (hK : K.1 = 923) (hX : FX M)  (h : (t0 = l5 → (¬ l5 = (0 : Int) → Wp (d + 1) 288 2445 [vR 31, vR l1, vR l2, vR l3, vI l4, vI l5, vI l6, vU] [] M K Q) ∧ (l5 = (0 : Int) → isO 923 l3 22 = true ∧ (0 ≤ (0 : Int) ∧ (0 : Int) < (ln l3 : Int)) ∧ ((jcmp (M l3 0) l6) = (0 : Int) → Wp (d + 1) 288 2445 [vR 31, vR l1, vR l2, vR l3, vI l4, vI l5, vI l6, vU] [] M K Q) ∧ (¬ ((jcmp (M l3 0) l6) = (0 : Int)) → Q (.inl (some (vI (0 : Int)))) M K))) ∧ (¬ (t0 = l5) → Q (.inl (some (vI (0 : Int)))) M K)) : Wp (d + 1) 288 1345 [vR 31, vR l1, vR l2, vR l3, vI l4, vI l5, vI l6, vU] [vI t0] M K Q := by
  refine r_iload c288_1345 rfl ?_
  refine r_icmpP (P := t0 = l5) c288_1347 rfl (fun hc1 => ?_) (fun hc1 => ?_)
  · replace h := h.1 hc1
    refine r_iload c288_1352 rfl ?_
    refine r_ifP (P := ¬ l5 = (0 : Int)) c288_1354 rfl (fun hc2 => ?_) (fun hc2 => ?_)
    · replace h := h.1 hc2
      refine r_goto c288_1369 ?_
      exact h
    · have hc3 := Classical.not_not.mp hc2
      replace h := h.2 hc3
      refine r_aload_n c288_1357 rfl ?_
      refine r_iconst c288_1358 ?_
      obtain ⟨o4, h⟩ := h
      obtain ⟨s5, h⟩ := h
      refine r_lae c288_1359 (oK hK o4) s5 rfl ?_
      refine r_iload c288_1360 rfl ?_
      refine r_i2l c288_1362 ?_
      refine r_lcmp c288_1363 ?_
      refine r_ifP (P := (jcmp (M l3 0) l6) = (0 : Int)) c288_1364 rfl (fun hc6 => ?_) (fun hc6 => ?_)
      · replace h := h.1 hc6
        refine r_goto c288_1369 ?_
        exact h
      · replace h := h.2 hc6
        refine r_iconst c288_1367 ?_
        exact r_iret c288_1368 (by decide) h
  · replace h := h.2 hc1
    refine r_iconst c288_1350 ?_
    exact r_iret c288_1351 (by decide) h
theorem u288_1372 {d : Nat} {l0 : Nat} {l1 : Nat} {l2 : Nat} {l3 : Nat} {l4 : Int} {l5 : PV} {l6 : PV} {M : Mem} {K : KK} {Q : RR → Mem → KK → Prop} (hK : K.1 = 923) (hX : FX M)  (h : (0 ≤ (w32 (l4 + (1 : Int))) ∧ (w32 (l4 + (1 : Int))) < M 30 0) ∧ (0 ≤ (w32 (l4 + (2 : Int))) ∧ (w32 (l4 + (2 : Int))) < M 30 0) ∧ (0 ≤ (w32 (l4 + (3 : Int))) ∧ (w32 (l4 + (3 : Int))) < M 30 0) ∧ (0 ≤ (w32 (l4 + (4 : Int))) ∧ (w32 (l4 + (4 : Int))) < M 30 0) ∧ (0 ≤ (w32 (l4 + (5 : Int))) ∧ (w32 (l4 + (5 : Int))) < M 30 0) ∧ Wm d 275 [vR l1, vI (M 31 (Int.toNat (w32 (l4 + (1 : Int))))), vI (M 31 (Int.toNat (w32 (l4 + (2 : Int))))), vI (M 31 (Int.toNat (w32 (l4 + (3 : Int))))), vI (M 31 (Int.toNat (w32 (l4 + (4 : Int))))), vI (M 31 (Int.toNat (w32 (l4 + (5 : Int))))), vR l3] M K (Bk d 288 1404 1407 275 [vR 31, vR l1, vR l2, vR l3, vI l4, l5, l6, vU] [] Q)) : Wp (d + 1) 288 1372 [vR 31, vR l1, vR l2, vR l3, vI l4, l5, l6, vU] [] M K Q := by
  refine r_aload_n c288_1372 rfl ?_
  refine r_aload_n c288_1373 rfl ?_
  refine r_iload c288_1374 rfl ?_
  refine r_iconst c288_1376 ?_
  refine r_iadd c288_1377 ?_
  obtain ⟨s1, h⟩ := h
  refine r_iax c288_1378 s1 ?_
  refine r_aload_n c288_1379 rfl ?_
  refine r_iload c288_1380 rfl ?_
  refine r_iconst c288_1382 ?_
  refine r_iadd c288_1383 ?_
  obtain ⟨s2, h⟩ := h
  refine r_iax c288_1384 s2 ?_
  refine r_aload_n c288_1385 rfl ?_
  refine r_iload c288_1386 rfl ?_
  refine r_iconst c288_1388 ?_
  refine r_iadd c288_1389 ?_
  obtain ⟨s3, h⟩ := h
  refine r_iax c288_1390 s3 ?_
  refine r_aload_n c288_1391 rfl ?_
  refine r_iload c288_1392 rfl ?_
  refine r_iconst c288_1394 ?_
  refine r_iadd c288_1395 ?_
  obtain ⟨s4, h⟩ := h
  refine r_iax c288_1396 s4 ?_
  refine r_aload_n c288_1397 rfl ?_
  refine r_iload c288_1398 rfl ?_
  refine r_iconst c288_1400 ?_
  refine r_iadd c288_1401 ?_
  obtain ⟨s5, h⟩ := h
  refine r_iax c288_1402 s5 ?_
  refine r_aload_n c288_1403 rfl ?_
  exact r_call c288_1404 rfl rfl (Nat.le_of_ble_eq_true rfl) (okc_s rfl rfl rfl) h
theorem u288_1407 {d : Nat} {l0 : Nat} {l1 : Nat} {l2 : Nat} {l3 : Nat} {l4 : Int} {l5 : PV} {l6 : PV} {t0 : Int} {M : Mem} {K : KK} {Q : RR → Mem → KK → Prop} (hK : K.1 = 923) (hX : FX M)  (h : (0 ≤ (w32 (l4 + (1 : Int))) ∧ (w32 (l4 + (1 : Int))) < M 30 0) ∧ (0 ≤ (w32 (l4 + (2 : Int))) ∧ (w32 (l4 + (2 : Int))) < M 30 0) ∧ (0 ≤ (w32 (l4 + (3 : Int))) ∧ (w32 (l4 + (3 : Int))) < M 30 0) ∧ (0 ≤ (w32 (l4 + (4 : Int))) ∧ (w32 (l4 + (4 : Int))) < M 30 0) ∧ (0 ≤ (w32 (l4 + (5 : Int))) ∧ (w32 (l4 + (5 : Int))) < M 30 0) ∧ isO 923 l2 12 = true ∧ Wm d 227 [vR l2, vI (M 31 (Int.toNat (w32 (l4 + (1 : Int))))), vI (M 31 (Int.toNat (w32 (l4 + (2 : Int))))), vI (M 31 (Int.toNat (w32 (l4 + (3 : Int))))), vI (M 31 (Int.toNat (w32 (l4 + (4 : Int))))), vI (M 31 (Int.toNat (w32 (l4 + (5 : Int)))))] M K (Bk d 288 1440 1443 227 [vR 31, vR l1, vR l2, vR l3, vI l4, vI t0, l6, vU] [] Q)) : Wp (d + 1) 288 1407 [vR 31, vR l1, vR l2, vR l3, vI l4, l5, l6, vU] [vI t0] M K Q := by
  refine r_istore c288_1407 (Nat.le_of_ble_eq_true rfl) ?_
  refine r_aload_n c288_1409 rfl ?_
  refine r_aload_n c288_1410 rfl ?_
  refine r_iload c288_1411 rfl ?_
  refine r_iconst c288_1413 ?_
  refine r_iadd c288_1414 ?_
  obtain ⟨s1, h⟩ := h
  refine r_iax c288_1415 s1 ?_
  refine r_aload_n c288_1416 rfl ?_
  refine r_iload c288_1417 rfl ?_
  refine r_iconst c288_1419 ?_
  refine r_iadd c288_1420 ?_
  obtain ⟨s2, h⟩ := h
  refine r_iax c288_1421 s2 ?_
  refine r_aload_n c288_1422 rfl ?_
  refine r_iload c288_1423 rfl ?_
  refine r_iconst c288_1425 ?_
  refine r_iadd c288_1426 ?_
  obtain ⟨s3, h⟩ := h
  refine r_iax c288_1427 s3 ?_
  refine r_aload_n c288_1428 rfl ?_
  refine r_iload c288_1429 rfl ?_
  refine r_iconst c288_1431 ?_
  refine r_iadd c288_1432 ?_
  obtain ⟨s4, h⟩ := h
  refine r_iax c288_1433 s4 ?_
  refine r_aload_n c288_1434 rfl ?_
  refine r_iload c288_1435 rfl ?_
  refine r_iconst c288_1437 ?_
  refine r_iadd c288_1438 ?_
  obtain ⟨s5, h⟩ := h
  refine r_iax c288_1439 s5 ?_
  obtain ⟨o6, h⟩ := h
  exact r_call c288_1440 rfl rfl (Nat.le_of_ble_eq_true rfl) (okc_r rfl rfl (oK hK o6)) h
theorem u288_1443 {d : Nat} {l0 : Nat} {l1 : Nat} {l2 : Nat} {l3 : Nat} {l4 : Int} {l5 : Int} {l6 : PV} {t0 : Int} {M : Mem} {K : KK} {Q : RR → Mem → KK → Prop} (hK : K.1 = 923) (hX : FX M)  (h : isO 923 l2 12 = true ∧ Wm d 151 [vR l2] M K (Bk d 288 1446 1449 151 [vR 31, vR l1, vR l2, vR l3, vI l4, vI l5, vL t0, vU] [] Q)) : Wp (d + 1) 288 1443 [vR 31, vR l1, vR l2, vR l3, vI l4, vI l5, l6, vU] [vL t0] M K Q := by
  refine r_lstore c288_1443 (Nat.le_of_ble_eq_true rfl) ?_
  refine r_aload_n c288_1445 rfl ?_
  obtain ⟨o1, h⟩ := h
  exact r_call c288_1446 rfl rfl (Nat.le_of_ble_eq_true rfl) (okc_r rfl rfl (oK hK o1)) h
theorem u288_1449 {d : Nat} {l0 : Nat} {l1 : Nat} {l2 : Nat} {l3 : Nat} {l4 : Int} {l5 : Int} {l6 : Int} {t0 : Int} {M : Mem} {K : KK} {Q : RR → Mem → KK → Prop} (hK : K.1 = 923) (hX : FX M)  (h : (t0 = l5 → (¬ l5 = (0 : Int) → Wp (d + 1) 288 2445 [vR 31, vR l1, vR l2, vR l3, vI l4, vI l5, vL l6, vU] [] M K Q) ∧ (l5 = (0 : Int) → isO 923 l3 22 = true ∧ (0 ≤ (0 : Int) ∧ (0 : Int) < (ln l3 : Int)) ∧ ((jcmp (M l3 0) l6) = (0 : Int) → Wp (d + 1) 288 2445 [vR 31, vR l1, vR l2, vR l3, vI l4, vI l5, vL l6, vU] [] M K Q) ∧ (¬ ((jcmp (M l3 0) l6) = (0 : Int)) → Q (.inl (some (vI (0 : Int)))) M K))) ∧ (¬ (t0 = l5) → Q (.inl (some (vI (0 : Int)))) M K)) : Wp (d + 1) 288 1449 [vR 31, vR l1, vR l2, vR l3, vI l4, vI l5, vL l6, vU] [vI t0] M K Q := by
  refine r_iload c288_1449 rfl ?_
  refine r_icmpP (P := t0 = l5) c288_1451 rfl (fun hc1 => ?_) (fun hc1 => ?_)
  · replace h := h.1 hc1
    refine r_iload c288_1456 rfl ?_
    refine r_ifP (P := ¬ l5 = (0 : Int)) c288_1458 rfl (fun hc2 => ?_) (fun hc2 => ?_)
    · replace h := h.1 hc2
      refine r_goto c288_1472 ?_
      exact h
    · have hc3 := Classical.not_not.mp hc2
      replace h := h.2 hc3
      refine r_aload_n c288_1461 rfl ?_
      refine r_iconst c288_1462 ?_
      obtain ⟨o4, h⟩ := h
      obtain ⟨s5, h⟩ := h
      refine r_lae c288_1463 (oK hK o4) s5 rfl ?_
      refine r_lload c288_1464 rfl ?_
      refine r_lcmp c288_1466 ?_
      refine r_ifP (P := (jcmp (M l3 0) l6) = (0 : Int)) c288_1467 rfl (fun hc6 => ?_) (fun hc6 => ?_)
      · replace h := h.1 hc6
        refine r_goto c288_1472 ?_
        exact h
      · replace h := h.2 hc6
        refine r_iconst c288_1470 ?_
        exact r_iret c288_1471 (by decide) h
  · replace h := h.2 hc1
    refine r_iconst c288_1454 ?_
    exact r_iret c288_1455 (by decide) h
theorem u288_1475 {d : Nat} {l0 : Nat} {l1 : Nat} {l2 : Nat} {l3 : Nat} {l4 : Int} {l5 : PV} {l6 : PV} {M : Mem} {K : KK} {Q : RR → Mem → KK → Prop} (hK : K.1 = 923) (hX : FX M)  (h : (0 ≤ (w32 (l4 + (1 : Int))) ∧ (w32 (l4 + (1 : Int))) < M 30 0) ∧ (0 ≤ (w32 (l4 + (2 : Int))) ∧ (w32 (l4 + (2 : Int))) < M 30 0) ∧ Wm d 276 [vR l1, vI (M 31 (Int.toNat (w32 (l4 + (1 : Int))))), vI (M 31 (Int.toNat (w32 (l4 + (2 : Int))))), vR l3] M K (Bk d 288 1489 1492 276 [vR 31, vR l1, vR l2, vR l3, vI l4, l5, l6, vU] [] Q)) : Wp (d + 1) 288 1475 [vR 31, vR l1, vR l2, vR l3, vI l4, l5, l6, vU] [] M K Q := by
  refine r_aload_n c288_1475 rfl ?_
  refine r_aload_n c288_1476 rfl ?_
  refine r_iload c288_1477 rfl ?_
  refine r_iconst c288_1479 ?_
  refine r_iadd c288_1480 ?_
  obtain ⟨s1, h⟩ := h
  refine r_iax c288_1481 s1 ?_
  refine r_aload_n c288_1482 rfl ?_
  refine r_iload c288_1483 rfl ?_
  refine r_iconst c288_1485 ?_
  refine r_iadd c288_1486 ?_
  obtain ⟨s2, h⟩ := h
  refine r_iax c288_1487 s2 ?_
  refine r_aload_n c288_1488 rfl ?_
  exact r_call c288_1489 rfl rfl (Nat.le_of_ble_eq_true rfl) (okc_s rfl rfl rfl) h
theorem u288_1492 {d : Nat} {l0 : Nat} {l1 : Nat} {l2 : Nat} {l3 : Nat} {l4 : Int} {l5 : PV} {l6 : PV} {t0 : Int} {M : Mem} {K : KK} {Q : RR → Mem → KK → Prop} (hK : K.1 = 923) (hX : FX M)  (h : (0 ≤ (w32 (l4 + (1 : Int))) ∧ (w32 (l4 + (1 : Int))) < M 30 0) ∧ (0 ≤ (w32 (l4 + (2 : Int))) ∧ (w32 (l4 + (2 : Int))) < M 30 0) ∧ isO 923 l2 12 = true ∧ Wm d 229 [vR l2, vI (M 31 (Int.toNat (w32 (l4 + (1 : Int))))), vI (M 31 (Int.toNat (w32 (l4 + (2 : Int)))))] M K (Bk d 288 1507 1510 229 [vR 31, vR l1, vR l2, vR l3, vI l4, vI t0, l6, vU] [] Q)) : Wp (d + 1) 288 1492 [vR 31, vR l1, vR l2, vR l3, vI l4, l5, l6, vU] [vI t0] M K Q := by
  refine r_istore c288_1492 (Nat.le_of_ble_eq_true rfl) ?_
  refine r_aload_n c288_1494 rfl ?_
  refine r_aload_n c288_1495 rfl ?_
  refine r_iload c288_1496 rfl ?_
  refine r_iconst c288_1498 ?_
  refine r_iadd c288_1499 ?_
  obtain ⟨s1, h⟩ := h
  refine r_iax c288_1500 s1 ?_
  refine r_aload_n c288_1501 rfl ?_
  refine r_iload c288_1502 rfl ?_
  refine r_iconst c288_1504 ?_
  refine r_iadd c288_1505 ?_
  obtain ⟨s2, h⟩ := h
  refine r_iax c288_1506 s2 ?_
  obtain ⟨o3, h⟩ := h
  exact r_call c288_1507 rfl rfl (Nat.le_of_ble_eq_true rfl) (okc_r rfl rfl (oK hK o3)) h
theorem u288_1510 {d : Nat} {l0 : Nat} {l1 : Nat} {l2 : Nat} {l3 : Nat} {l4 : Int} {l5 : Int} {l6 : PV} {t0 : Int} {M : Mem} {K : KK} {Q : RR → Mem → KK → Prop} (hK : K.1 = 923) (hX : FX M)  (h : isO 923 l2 12 = true ∧ Wm d 151 [vR l2] M K (Bk d 288 1513 1516 151 [vR 31, vR l1, vR l2, vR l3, vI l4, vI l5, vI t0, vU] [] Q)) : Wp (d + 1) 288 1510 [vR 31, vR l1, vR l2, vR l3, vI l4, vI l5, l6, vU] [vI t0] M K Q := by
  refine r_istore c288_1510 (Nat.le_of_ble_eq_true rfl) ?_
  refine r_aload_n c288_1512 rfl ?_
  obtain ⟨o1, h⟩ := h
  exact r_call c288_1513 rfl rfl (Nat.le_of_ble_eq_true rfl) (okc_r rfl rfl (oK hK o1)) h
theorem u288_1516 {d : Nat} {l0 : Nat} {l1 : Nat} {l2 : Nat} {l3 : Nat} {l4 : Int} {l5 : Int} {l6 : Int} {t0 : Int} {M : Mem} {K : KK} {Q : RR → Mem → KK → Prop} (hK : K.1 = 923) (hX : FX M)  (h : (t0 = l5 → (¬ l5 = (0 : Int) → Wp (d + 1) 288 2445 [vR 31, vR l1, vR l2, vR l3, vI l4, vI l5, vI l6, vU] [] M K Q) ∧ (l5 = (0 : Int) → isO 923 l3 22 = true ∧ (0 ≤ (0 : Int) ∧ (0 : Int) < (ln l3 : Int)) ∧ ((jcmp (M l3 0) l6) = (0 : Int) → Wp (d + 1) 288 2445 [vR 31, vR l1, vR l2, vR l3, vI l4, vI l5, vI l6, vU] [] M K Q) ∧ (¬ ((jcmp (M l3 0) l6) = (0 : Int)) → Q (.inl (some (vI (0 : Int)))) M K))) ∧ (¬ (t0 = l5) → Q (.inl (some (vI (0 : Int)))) M K)) : Wp (d + 1) 288 1516 [vR 31, vR l1, vR l2, vR l3, vI l4, vI l5, vI l6, vU] [vI t0] M K Q := by
  refine r_iload c288_1516 rfl ?_
  refine r_icmpP (P := t0 = l5) c288_1518 rfl (fun hc1 => ?_) (fun hc1 => ?_)
  · replace h := h.1 hc1
    refine r_iload c288_1523 rfl ?_
    refine r_ifP (P := ¬ l5 = (0 : Int)) c288_1525 rfl (fun hc2 => ?_) (fun hc2 => ?_)
    · replace h := h.1 hc2
      refine r_goto c288_1540 ?_
      exact h
    · have hc3 := Classical.not_not.mp hc2
      replace h := h.2 hc3
      refine r_aload_n c288_1528 rfl ?_
      refine r_iconst c288_1529 ?_
      obtain ⟨o4, h⟩ := h
      obtain ⟨s5, h⟩ := h
      refine r_lae c288_1530 (oK hK o4) s5 rfl ?_
      refine r_iload c288_1531 rfl ?_
      refine r_i2l c288_1533 ?_
      refine r_lcmp c288_1534 ?_
      refine r_ifP (P := (jcmp (M l3 0) l6) = (0 : Int)) c288_1535 rfl (fun hc6 => ?_) (fun hc6 => ?_)
      · replace h := h.1 hc6
        refine r_goto c288_1540 ?_
        exact h
      · replace h := h.2 hc6
        refine r_iconst c288_1538 ?_
        exact r_iret c288_1539 (by decide) h
  · replace h := h.2 hc1
    refine r_iconst c288_1521 ?_
    exact r_iret c288_1522 (by decide) h
theorem u288_1543 {d : Nat} {l0 : Nat} {l1 : Nat} {l2 : Nat} {l3 : Nat} {l4 : Int} {l5 : PV} {l6 : PV} {M : Mem} {K : KK} {Q : RR → Mem → KK → Prop} (hK : K.1 = 923) (hX : FX M)  (h : (0 ≤ (w32 (l4 + (1 : Int))) ∧ (w32 (l4 + (1 : Int))) < M 30 0) ∧ (0 ≤ (w32 (l4 + (2 : Int))) ∧ (w32 (l4 + (2 : Int))) < M 30 0) ∧ Wm d 277 [vR l1, vI (M 31 (Int.toNat (w32 (l4 + (1 : Int))))), vI (M 31 (Int.toNat (w32 (l4 + (2 : Int))))), vR l3] M K (Bk d 288 1557 1560 277 [vR 31, vR l1, vR l2, vR l3, vI l4, l5, l6, vU] [] Q)) : Wp (d + 1) 288 1543 [vR 31, vR l1, vR l2, vR l3, vI l4, l5, l6, vU] [] M K Q := by
  refine r_aload_n c288_1543 rfl ?_
  refine r_aload_n c288_1544 rfl ?_
  refine r_iload c288_1545 rfl ?_
  refine r_iconst c288_1547 ?_
  refine r_iadd c288_1548 ?_
  obtain ⟨s1, h⟩ := h
  refine r_iax c288_1549 s1 ?_
  refine r_aload_n c288_1550 rfl ?_
  refine r_iload c288_1551 rfl ?_
  refine r_iconst c288_1553 ?_
  refine r_iadd c288_1554 ?_
  obtain ⟨s2, h⟩ := h
  refine r_iax c288_1555 s2 ?_
  refine r_aload_n c288_1556 rfl ?_
  exact r_call c288_1557 rfl rfl (Nat.le_of_ble_eq_true rfl) (okc_s rfl rfl rfl) h
theorem u288_1560 {d : Nat} {l0 : Nat} {l1 : Nat} {l2 : Nat} {l3 : Nat} {l4 : Int} {l5 : PV} {l6 : PV} {t0 : Int} {M : Mem} {K : KK} {Q : RR → Mem → KK → Prop} (hK : K.1 = 923) (hX : FX M)  (h : (0 ≤ (w32 (l4 + (1 : Int))) ∧ (w32 (l4 + (1 : Int))) < M 30 0) ∧ (0 ≤ (w32 (l4 + (2 : Int))) ∧ (w32 (l4 + (2 : Int))) < M 30 0) ∧ isO 923 l2 12 = true ∧ Wm d 231 [vR l2, vI (M 31 (Int.toNat (w32 (l4 + (1 : Int))))), vI (M 31 (Int.toNat (w32 (l4 + (2 : Int)))))] M K (Bk d 288 1575 1578 231 [vR 31, vR l1, vR l2, vR l3, vI l4, vI t0, l6, vU] [] Q)) : Wp (d + 1) 288 1560 [vR 31, vR l1, vR l2, vR l3, vI l4, l5, l6, vU] [vI t0] M K Q := by
  refine r_istore c288_1560 (Nat.le_of_ble_eq_true rfl) ?_
  refine r_aload_n c288_1562 rfl ?_
  refine r_aload_n c288_1563 rfl ?_
  refine r_iload c288_1564 rfl ?_
  refine r_iconst c288_1566 ?_
  refine r_iadd c288_1567 ?_
  obtain ⟨s1, h⟩ := h
  refine r_iax c288_1568 s1 ?_
  refine r_aload_n c288_1569 rfl ?_
  refine r_iload c288_1570 rfl ?_
  refine r_iconst c288_1572 ?_
  refine r_iadd c288_1573 ?_
  obtain ⟨s2, h⟩ := h
  refine r_iax c288_1574 s2 ?_
  obtain ⟨o3, h⟩ := h
  exact r_call c288_1575 rfl rfl (Nat.le_of_ble_eq_true rfl) (okc_r rfl rfl (oK hK o3)) h
theorem u288_1578 {d : Nat} {l0 : Nat} {l1 : Nat} {l2 : Nat} {l3 : Nat} {l4 : Int} {l5 : Int} {l6 : PV} {t0 : Int} {M : Mem} {K : KK} {Q : RR → Mem → KK → Prop} (hK : K.1 = 923) (hX : FX M)  (h : isO 923 l2 12 = true ∧ Wm d 151 [vR l2] M K (Bk d 288 1581 1584 151 [vR 31, vR l1, vR l2, vR l3, vI l4, vI l5, vI t0, vU] [] Q)) : Wp (d + 1) 288 1578 [vR 31, vR l1, vR l2, vR l3, vI l4, vI l5, l6, vU] [vI t0] M K Q := by
  refine r_istore c288_1578 (Nat.le_of_ble_eq_true rfl) ?_
  refine r_aload_n c288_1580 rfl ?_
  obtain ⟨o1, h⟩ := h
  exact r_call c288_1581 rfl rfl (Nat.le_of_ble_eq_true rfl) (okc_r rfl rfl (oK hK o1)) h
theorem u288_1584 {d : Nat} {l0 : Nat} {l1 : Nat} {l2 : Nat} {l3 : Nat} {l4 : Int} {l5 : Int} {l6 : Int} {t0 : Int} {M : Mem} {K : KK} {Q : RR → Mem → KK → Prop} (hK : K.1 = 923) (hX : FX M)  (h : (t0 = l5 → (¬ l5 = (0 : Int) → Wp (d + 1) 288 2445 [vR 31, vR l1, vR l2, vR l3, vI l4, vI l5, vI l6, vU] [] M K Q) ∧ (l5 = (0 : Int) → isO 923 l3 22 = true ∧ (0 ≤ (0 : Int) ∧ (0 : Int) < (ln l3 : Int)) ∧ ((jcmp (M l3 0) l6) = (0 : Int) → Wp (d + 1) 288 2445 [vR 31, vR l1, vR l2, vR l3, vI l4, vI l5, vI l6, vU] [] M K Q) ∧ (¬ ((jcmp (M l3 0) l6) = (0 : Int)) → Q (.inl (some (vI (0 : Int)))) M K))) ∧ (¬ (t0 = l5) → Q (.inl (some (vI (0 : Int)))) M K)) : Wp (d + 1) 288 1584 [vR 31, vR l1, vR l2, vR l3, vI l4, vI l5, vI l6, vU] [vI t0] M K Q := by
  refine r_iload c288_1584 rfl ?_
  refine r_icmpP (P := t0 = l5) c288_1586 rfl (fun hc1 => ?_) (fun hc1 => ?_)
  · replace h := h.1 hc1
    refine r_iload c288_1591 rfl ?_
    refine r_ifP (P := ¬ l5 = (0 : Int)) c288_1593 rfl (fun hc2 => ?_) (fun hc2 => ?_)
    · replace h := h.1 hc2
      refine r_goto c288_1608 ?_
      exact h
    · have hc3 := Classical.not_not.mp hc2
      replace h := h.2 hc3
      refine r_aload_n c288_1596 rfl ?_
      refine r_iconst c288_1597 ?_
      obtain ⟨o4, h⟩ := h
      obtain ⟨s5, h⟩ := h
      refine r_lae c288_1598 (oK hK o4) s5 rfl ?_
      refine r_iload c288_1599 rfl ?_
      refine r_i2l c288_1601 ?_
      refine r_lcmp c288_1602 ?_
      refine r_ifP (P := (jcmp (M l3 0) l6) = (0 : Int)) c288_1603 rfl (fun hc6 => ?_) (fun hc6 => ?_)
      · replace h := h.1 hc6
        refine r_goto c288_1608 ?_
        exact h
      · replace h := h.2 hc6
        refine r_iconst c288_1606 ?_
        exact r_iret c288_1607 (by decide) h
  · replace h := h.2 hc1
    refine r_iconst c288_1589 ?_
    exact r_iret c288_1590 (by decide) h
theorem u288_1611 {d : Nat} {l0 : Nat} {l1 : Nat} {l2 : Nat} {l3 : Nat} {l4 : Int} {l5 : PV} {l6 : PV} {M : Mem} {K : KK} {Q : RR → Mem → KK → Prop} (hK : K.1 = 923) (hX : FX M)  (h : isO 923 l1 11 = true ∧ Wm d 121 [vR l1] M K (Bk d 288 1612 1615 121 [vR 31, vR l1, vR l2, vR l3, vI l4, l5, l6, vU] [] Q)) : Wp (d + 1) 288 1611 [vR 31, vR l1, vR l2, vR l3, vI l4, l5, l6, vU] [] M K Q := by
  refine r_aload_n c288_1611 rfl ?_
  obtain ⟨o1, h⟩ := h
  exact r_call c288_1612 rfl rfl (Nat.le_of_ble_eq_true rfl) (okc_r rfl rfl (oK hK o1)) h
theorem u288_1615 {d : Nat} {l0 : Nat} {l1 : Nat} {l2 : Nat} {l3 : Nat} {l4 : Int} {l5 : PV} {l6 : PV} {t0 : Int} {M : Mem} {K : KK} {Q : RR → Mem → KK → Prop} (hK : K.1 = 923) (hX : FX M)  (h : isO 923 l2 12 = true ∧ Wm d 236 [vR l2] M K (Bk d 288 1616 1619 236 [vR 31, vR l1, vR l2, vR l3, vI l4, l5, l6, vU] [vI t0] Q)) : Wp (d + 1) 288 1615 [vR 31, vR l1, vR l2, vR l3, vI l4, l5, l6, vU] [vI t0] M K Q := by
  refine r_aload_n c288_1615 rfl ?_
  obtain ⟨o1, h⟩ := h
  exact r_call c288_1616 rfl rfl (Nat.le_of_ble_eq_true rfl) (okc_r rfl rfl (oK hK o1)) h
theorem u288_1619 {d : Nat} {l0 : Nat} {l1 : Nat} {l2 : Nat} {l3 : Nat} {l4 : Int} {l5 : PV} {l6 : PV} {t0 : Int} {t1 : Int} {M : Mem} {K : KK} {Q : RR → Mem → KK → Prop} (hK : K.1 = 923) (hX : FX M)  (h : (t0 = t1 → Wp (d + 1) 288 2445 [vR 31, vR l1, vR l2, vR l3, vI l4, l5, l6, vU] [] M K Q) ∧ (¬ (t0 = t1) → Q (.inl (some (vI (0 : Int)))) M K)) : Wp (d + 1) 288 1619 [vR 31, vR l1, vR l2, vR l3, vI l4, l5, l6, vU] [vI t1, vI t0] M K Q := by
  refine r_icmpP (P := t0 = t1) c288_1619 rfl (fun hc1 => ?_) (fun hc1 => ?_)
  · replace h := h.1 hc1
    exact h
  · replace h := h.2 hc1
    refine r_iconst c288_1622 ?_
    exact r_iret c288_1623 (by decide) h
theorem u288_1624 {d : Nat} {l0 : Nat} {l1 : Nat} {l2 : Nat} {l3 : Nat} {l4 : Int} {l5 : PV} {l6 : PV} {M : Mem} {K : KK} {Q : RR → Mem → KK → Prop} (hK : K.1 = 923) (hX : FX M)  (h : (0 ≤ (w32 (l4 + (1 : Int))) ∧ (w32 (l4 + (1 : Int))) < M 30 0) ∧ Wm d 278 [vR l1, vI (M 31 (Int.toNat (w32 (l4 + (1 : Int))))), vR l3] M K (Bk d 288 1632 1635 278 [vR 31, vR l1, vR l2, vR l3, vI l4, l5, l6, vU] [] Q)) : Wp (d + 1) 288 1624 [vR 31, vR l1, vR l2, vR l3, vI l4, l5, l6, vU] [] M K Q := by
  refine r_aload_n c288_1624 rfl ?_
  refine r_aload_n c288_1625 rfl ?_
  refine r_iload c288_1626 rfl ?_
  refine r_iconst c288_1628 ?_
  refine r_iadd c288_1629 ?_
  obtain ⟨s1, h⟩ := h
  refine r_iax c288_1630 s1 ?_
  refine r_aload_n c288_1631 rfl ?_
  exact r_call c288_1632 rfl rfl (Nat.le_of_ble_eq_true rfl) (okc_s rfl rfl rfl) h
theorem u288_1635 {d : Nat} {l0 : Nat} {l1 : Nat} {l2 : Nat} {l3 : Nat} {l4 : Int} {l5 : PV} {l6 : PV} {t0 : Int} {M : Mem} {K : KK} {Q : RR → Mem → KK → Prop} (hK : K.1 = 923) (hX : FX M)  (h : (0 ≤ (w32 (l4 + (1 : Int))) ∧ (w32 (l4 + (1 : Int))) < M 30 0) ∧ isO 923 l2 12 = true ∧ Wm d 237 [vR l2, vI (M 31 (Int.toNat (w32 (l4 + (1 : Int)))))] M K (Bk d 288 1644 1647 237 [vR 31, vR l1, vR l2, vR l3, vI l4, vI t0, l6, vU] [] Q)) : Wp (d + 1) 288 1635 [vR 31, vR l1, vR l2, vR l3, vI l4, l5, l6, vU] [vI t0] M K Q := by
  refine r_istore c288_1635 (Nat.le_of_ble_eq_true rfl) ?_
  refine r_aload_n c288_1637 rfl ?_
  refine r_aload_n c288_1638 rfl ?_
  refine r_iload c288_1639 rfl ?_
  refine r_iconst c288_1641 ?_
  refine r_iadd c288_1642 ?_
  obtain ⟨s1, h⟩ := h
  refine r_iax c288_1643 s1 ?_
  obtain ⟨o2, h⟩ := h
  exact r_call c288_1644 rfl rfl (Nat.le_of_ble_eq_true rfl) (okc_r rfl rfl (oK hK o2)) h
theorem u288_1647 {d : Nat} {l0 : Nat} {l1 : Nat} {l2 : Nat} {l3 : Nat} {l4 : Int} {l5 : Int} {l6 : PV} {t0 : Int} {M : Mem} {K : KK} {Q : RR → Mem → KK → Prop} (hK : K.1 = 923) (hX : FX M)  (h : isO 923 l2 12 = true ∧ Wm d 151 [vR l2] M K (Bk d 288 1650 1653 151 [vR 31, vR l1, vR l2, vR l3, vI l4, vI l5, vI t0, vU] [] Q)) : Wp (d + 1) 288 1647 [vR 31, vR l1, vR l2, vR l3, vI l4, vI l5, l6, vU] [vI t0] M K Q := by
  refine r_istore c288_1647 (Nat.le_of_ble_eq_true rfl) ?_
  refine r_aload_n c288_1649 rfl ?_
  obtain ⟨o1, h⟩ := h
  exact r_call c288_1650 rfl rfl (Nat.le_of_ble_eq_true rfl) (okc_r rfl rfl (oK hK o1)) h
theorem u288_1653 {d : Nat} {l0 : Nat} {l1 : Nat} {l2 : Nat} {l3 : Nat} {l4 : Int} {l5 : Int} {l6 : Int} {t0 : Int} {M : Mem} {K : KK} {Q : RR → Mem → KK → Prop} (hK : K.1 = 923) (hX : FX M)  (h : (t0 = l5 → (¬ l5 = (0 : Int) → Wp (d + 1) 288 2445 [vR 31, vR l1, vR l2, vR l3, vI l4, vI l5, vI l6, vU] [] M K Q) ∧ (l5 = (0 : Int) → isO 923 l3 22 = true ∧ (0 ≤ (0 : Int) ∧ (0 : Int) < (ln l3 : Int)) ∧ ((jcmp (M l3 0) l6) = (0 : Int) → Wp (d + 1) 288 2445 [vR 31, vR l1, vR l2, vR l3, vI l4, vI l5, vI l6, vU] [] M K Q) ∧ (¬ ((jcmp (M l3 0) l6) = (0 : Int)) → Q (.inl (some (vI (0 : Int)))) M K))) ∧ (¬ (t0 = l5) → Q (.inl (some (vI (0 : Int)))) M K)) : Wp (d + 1) 288 1653 [vR 31, vR l1, vR l2, vR l3, vI l4, vI l5, vI l6, vU] [vI t0] M K Q := by
  refine r_iload c288_1653 rfl ?_
  refine r_icmpP (P := t0 = l5) c288_1655 rfl (fun hc1 => ?_) (fun hc1 => ?_)
  · replace h := h.1 hc1
    refine r_iload c288_1660 rfl ?_
    refine r_ifP (P := ¬ l5 = (0 : Int)) c288_1662 rfl (fun hc2 => ?_) (fun hc2 => ?_)
    · replace h := h.1 hc2
      refine r_goto c288_1677 ?_
      exact h
    · have hc3 := Classical.not_not.mp hc2
      replace h := h.2 hc3
      refine r_aload_n c288_1665 rfl ?_
      refine r_iconst c288_1666 ?_
      obtain ⟨o4, h⟩ := h
      obtain ⟨s5, h⟩ := h
      refine r_lae c288_1667 (oK hK o4) s5 rfl ?_
      refine r_iload c288_1668 rfl ?_
      refine r_i2l c288_1670 ?_
      refine r_lcmp c288_1671 ?_
      refine r_ifP (P := (jcmp (M l3 0) l6) = (0 : Int)) c288_1672 rfl (fun hc6 => ?_) (fun hc6 => ?_)
      · replace h := h.1 hc6
        refine r_goto c288_1677 ?_
        exact h
      · replace h := h.2 hc6
        refine r_iconst c288_1675 ?_
        exact r_iret c288_1676 (by decide) h
  · replace h := h.2 hc1
    refine r_iconst c288_1658 ?_
    exact r_iret c288_1659 (by decide) h
theorem u288_1680 {d : Nat} {l0 : Nat} {l1 : Nat} {l2 : Nat} {l3 : Nat} {l4 : Int} {l5 : PV} {l6 : PV} {M : Mem} {K : KK} {Q : RR → Mem → KK → Prop} (hK : K.1 = 923) (hX : FX M)  (h : (0 ≤ (w32 (l4 + (1 : Int))) ∧ (w32 (l4 + (1 : Int))) < M 30 0) ∧ Wm d 279 [vR l1, vI (M 31 (Int.toNat (w32 (l4 + (1 : Int))))), vR l3] M K (Bk d 288 1688 1691 279 [vR 31, vR l1, vR l2, vR l3, vI l4, l5, l6, vU] [] Q)) : Wp (d + 1) 288 1680 [vR 31, vR l1, vR l2, vR l3, vI l4, l5, l6, vU] [] M K Q := by
  refine r_aload_n c288_1680 rfl ?_
  refine r_aload_n c288_1681 rfl ?_
  refine r_iload c288_1682 rfl ?_
  refine r_iconst c288_1684 ?_
  refine r_iadd c288_1685 ?_
  obtain ⟨s1, h⟩ := h
  refine r_iax c288_1686 s1 ?_
  refine r_aload_n c288_1687 rfl ?_
  exact r_call c288_1688 rfl rfl (Nat.le_of_ble_eq_true rfl) (okc_s rfl rfl rfl) h
theorem u288_1691 {d : Nat} {l0 : Nat} {l1 : Nat} {l2 : Nat} {l3 : Nat} {l4 : Int} {l5 : PV} {l6 : PV} {t0 : Int} {M : Mem} {K : KK} {Q : RR → Mem → KK → Prop} (hK : K.1 = 923) (hX : FX M)  (h : (0 ≤ (w32 (l4 + (1 : Int))) ∧ (w32 (l4 + (1 : Int))) < M 30 0) ∧ isO 923 l2 12 = true ∧ Wm d 240 [vR l2, vI (M 31 (Int.toNat (w32 (l4 + (1 : Int)))))] M K (Bk d 288 1700 1703 240 [vR 31, vR l1, vR l2, vR l3, vI l4, vI t0, l6, vU] [] Q)) : Wp (d + 1) 288 1691 [vR 31, vR l1, vR l2, vR l3, vI l4, l5, l6, vU] [vI t0] M K Q := by
  refine r_istore c288_1691 (Nat.le_of_ble_eq_true rfl) ?_
  refine r_aload_n c288_1693 rfl ?_
  refine r_aload_n c288_1694 rfl ?_
  refine r_iload c288_1695 rfl ?_
  refine r_iconst c288_1697 ?_
  refine r_iadd c288_1698 ?_
  obtain ⟨s1, h⟩ := h
  refine r_iax c288_1699 s1 ?_
  obtain ⟨o2, h⟩ := h
  exact r_call c288_1700 rfl rfl (Nat.le_of_ble_eq_true rfl) (okc_r rfl rfl (oK hK o2)) h
theorem u288_1703 {d : Nat} {l0 : Nat} {l1 : Nat} {l2 : Nat} {l3 : Nat} {l4 : Int} {l5 : Int} {l6 : PV} {t0 : Int} {M : Mem} {K : KK} {Q : RR → Mem → KK → Prop} (hK : K.1 = 923) (hX : FX M)  (h : isO 923 l2 12 = true ∧ Wm d 151 [vR l2] M K (Bk d 288 1706 1709 151 [vR 31, vR l1, vR l2, vR l3, vI l4, vI l5, vI t0, vU] [] Q)) : Wp (d + 1) 288 1703 [vR 31, vR l1, vR l2, vR l3, vI l4, vI l5, l6, vU] [vI t0] M K Q := by
  refine r_istore c288_1703 (Nat.le_of_ble_eq_true rfl) ?_
  refine r_aload_n c288_1705 rfl ?_
  obtain ⟨o1, h⟩ := h
  exact r_call c288_1706 rfl rfl (Nat.le_of_ble_eq_true rfl) (okc_r rfl rfl (oK hK o1)) h
theorem u288_1709 {d : Nat} {l0 : Nat} {l1 : Nat} {l2 : Nat} {l3 : Nat} {l4 : Int} {l5 : Int} {l6 : Int} {t0 : Int} {M : Mem} {K : KK} {Q : RR → Mem → KK → Prop} (hK : K.1 = 923) (hX : FX M)  (h : (t0 = l5 → (¬ l5 = (0 : Int) → Wp (d + 1) 288 2445 [vR 31, vR l1, vR l2, vR l3, vI l4, vI l5, vI l6, vU] [] M K Q) ∧ (l5 = (0 : Int) → isO 923 l3 22 = true ∧ (0 ≤ (0 : Int) ∧ (0 : Int) < (ln l3 : Int)) ∧ ((jcmp (M l3 0) l6) = (0 : Int) → Wp (d + 1) 288 2445 [vR 31, vR l1, vR l2, vR l3, vI l4, vI l5, vI l6, vU] [] M K Q) ∧ (¬ ((jcmp (M l3 0) l6) = (0 : Int)) → Q (.inl (some (vI (0 : Int)))) M K))) ∧ (¬ (t0 = l5) → Q (.inl (some (vI (0 : Int)))) M K)) : Wp (d + 1) 288 1709 [vR 31, vR l1, vR l2, vR l3, vI l4, vI l5, vI l6, vU] [vI t0] M K Q := by
  refine r_iload c288_1709 rfl ?_
  refine r_icmpP (P := t0 = l5) c288_1711 rfl (fun hc1 => ?_) (fun hc1 => ?_)
  · replace h := h.1 hc1
    refine r_iload c288_1716 rfl ?_
    refine r_ifP (P := ¬ l5 = (0 : Int)) c288_1718 rfl (fun hc2 => ?_) (fun hc2 => ?_)
    · replace h := h.1 hc2
      refine r_goto c288_1733 ?_
      exact h
    · have hc3 := Classical.not_not.mp hc2
      replace h := h.2 hc3
      refine r_aload_n c288_1721 rfl ?_
      refine r_iconst c288_1722 ?_
      obtain ⟨o4, h⟩ := h
      obtain ⟨s5, h⟩ := h
      refine r_lae c288_1723 (oK hK o4) s5 rfl ?_
      refine r_iload c288_1724 rfl ?_
      refine r_i2l c288_1726 ?_
      refine r_lcmp c288_1727 ?_
      refine r_ifP (P := (jcmp (M l3 0) l6) = (0 : Int)) c288_1728 rfl (fun hc6 => ?_) (fun hc6 => ?_)
      · replace h := h.1 hc6
        refine r_goto c288_1733 ?_
        exact h
      · replace h := h.2 hc6
        refine r_iconst c288_1731 ?_
        exact r_iret c288_1732 (by decide) h
  · replace h := h.2 hc1
    refine r_iconst c288_1714 ?_
    exact r_iret c288_1715 (by decide) h
theorem u288_1736 {d : Nat} {l0 : Nat} {l1 : Nat} {l2 : Nat} {l3 : Nat} {l4 : Int} {l5 : PV} {l6 : PV} {M : Mem} {K : KK} {Q : RR → Mem → KK → Prop} (hK : K.1 = 923) (hX : FX M)  (h : (0 ≤ (w32 (l4 + (1 : Int))) ∧ (w32 (l4 + (1 : Int))) < M 30 0) ∧ (0 ≤ (w32 (l4 + (2 : Int))) ∧ (w32 (l4 + (2 : Int))) < M 30 0) ∧ (0 ≤ (w32 (l4 + (3 : Int))) ∧ (w32 (l4 + (3 : Int))) < M 30 0) ∧ Wm d 280 [vR l1, vI (M 31 (Int.toNat (w32 (l4 + (1 : Int))))), vI (M 31 (Int.toNat (w32 (l4 + (2 : Int))))), vI (M 31 (Int.toNat (w32 (l4 + (3 : Int))))), vR l3] M K (Bk d 288 1756 1759 280 [vR 31, vR l1, vR l2, vR l3, vI l4, l5, l6, vU] [] Q)) : Wp (d + 1) 288 1736 [vR 31, vR l1, vR l2, vR l3, vI l4, l5, l6, vU] [] M K Q := by
  refine r_aload_n c288_1736 rfl ?_
  refine r_aload_n c288_1737 rfl ?_
  refine r_iload c288_1738 rfl ?_
  refine r_iconst c288_1740 ?_
  refine r_iadd c288_1741 ?_
  obtain ⟨s1, h⟩ := h
  refine r_iax c288_1742 s1 ?_
  refine r_aload_n c288_1743 rfl ?_
  refine r_iload c288_1744 rfl ?_
  refine r_iconst c288_1746 ?_
  refine r_iadd c288_1747 ?_
  obtain ⟨s2, h⟩ := h
  refine r_iax c288_1748 s2 ?_
  refine r_aload_n c288_1749 rfl ?_
  refine r_iload c288_1750 rfl ?_
  refine r_iconst c288_1752 ?_
  refine r_iadd c288_1753 ?_
  obtain ⟨s3, h⟩ := h
  refine r_iax c288_1754 s3 ?_
  refine r_aload_n c288_1755 rfl ?_
  exact r_call c288_1756 rfl rfl (Nat.le_of_ble_eq_true rfl) (okc_s rfl rfl rfl) h
theorem u288_1759 {d : Nat} {l0 : Nat} {l1 : Nat} {l2 : Nat} {l3 : Nat} {l4 : Int} {l5 : PV} {l6 : PV} {t0 : Int} {M : Mem} {K : KK} {Q : RR → Mem → KK → Prop} (hK : K.1 = 923) (hX : FX M)  (h : (0 ≤ (w32 (l4 + (1 : Int))) ∧ (w32 (l4 + (1 : Int))) < M 30 0) ∧ (0 ≤ (w32 (l4 + (2 : Int))) ∧ (w32 (l4 + (2 : Int))) < M 30 0) ∧ (0 ≤ (w32 (l4 + (3 : Int))) ∧ (w32 (l4 + (3 : Int))) < M 30 0) ∧ isO 923 l2 12 = true ∧ Wm d 241 [vR l2, vI (M 31 (Int.toNat (w32 (l4 + (1 : Int))))), vI (M 31 (Int.toNat (w32 (l4 + (2 : Int))))), vI (M 31 (Int.toNat (w32 (l4 + (3 : Int)))))] M K (Bk d 288 1780 1783 241 [vR 31, vR l1, vR l2, vR l3, vI l4, vI t0, l6, vU] [] Q)) : Wp (d + 1) 288 1759 [vR 31, vR l1, vR l2, vR l3, vI l4, l5, l6, vU] [vI t0] M K Q := by
  refine r_istore c288_1759 (Nat.le_of_ble_eq_true rfl) ?_
  refine r_aload_n c288_1761 rfl ?_
  refine r_aload_n c288_1762 rfl ?_
  refine r_iload c288_1763 rfl ?_
  refine r_iconst c288_1765 ?_
  refine r_iadd c288_1766 ?_
  obtain ⟨s1, h⟩ := h
  refine r_iax c288_1767 s1 ?_
  refine r_aload_n c288_1768 rfl ?_
  refine r_iload c288_1769 rfl ?_
  refine r_iconst c288_1771 ?_
  refine r_iadd c288_1772 ?_
  obtain ⟨s2, h⟩ := h
  refine r_iax c288_1773 s2 ?_
  refine r_aload_n c288_1774 rfl ?_
  refine r_iload c288_1775 rfl ?_
  refine r_iconst c288_1777 ?_
  refine r_iadd c288_1778 ?_
  obtain ⟨s3, h⟩ := h
  refine r_iax c288_1779 s3 ?_
  obtain ⟨o4, h⟩ := h
  exact r_call c288_1780 rfl rfl (Nat.le_of_ble_eq_true rfl) (okc_r rfl rfl (oK hK o4)) h
theorem u288_1783 {d : Nat} {l0 : Nat} {l1 : Nat} {l2 : Nat} {l3 : Nat} {l4 : Int} {l5 : Int} {l6 : PV} {t0 : Int} {M : Mem} {K : KK} {Q : RR → Mem → KK → Prop} (hK : K.1 = 923) (hX : FX M)  (h : isO 923 l2 12 = true ∧ Wm d 151 [vR l2] M K (Bk d 288 1786 1789 151 [vR 31, vR l1, vR l2, vR l3, vI l4, vI l5, vI t0, vU] [] Q)) : Wp (d + 1) 288 1783 [vR 31, vR l1, vR l2, vR l3, vI l4, vI l5, l6, vU] [vI t0] M K Q := by
  refine r_istore c288_1783 (Nat.le_of_ble_eq_true rfl) ?_
  refine r_aload_n c288_1785 rfl ?_
  obtain ⟨o1, h⟩ := h
  exact r_call c288_1786 rfl rfl (Nat.le_of_ble_eq_true rfl) (okc_r rfl rfl (oK hK o1)) h
theorem u288_1789 {d : Nat} {l0 : Nat} {l1 : Nat} {l2 : Nat} {l3 : Nat} {l4 : Int} {l5 : Int} {l6 : Int} {t0 : Int} {M : Mem} {K : KK} {Q : RR → Mem → KK → Prop} (hK : K.1 = 923) (hX : FX M)  (h : (t0 = l5 → (¬ l5 = (0 : Int) → Wp (d + 1) 288 2445 [vR 31, vR l1, vR l2, vR l3, vI l4, vI l5, vI l6, vU] [] M K Q) ∧ (l5 = (0 : Int) → isO 923 l3 22 = true ∧ (0 ≤ (0 : Int) ∧ (0 : Int) < (ln l3 : Int)) ∧ ((jcmp (M l3 0) l6) = (0 : Int) → Wp (d + 1) 288 2445 [vR 31, vR l1, vR l2, vR l3, vI l4, vI l5, vI l6, vU] [] M K Q) ∧ (¬ ((jcmp (M l3 0) l6) = (0 : Int)) → Q (.inl (some (vI (0 : Int)))) M K))) ∧ (¬ (t0 = l5) → Q (.inl (some (vI (0 : Int)))) M K)) : Wp (d + 1) 288 1789 [vR 31, vR l1, vR l2, vR l3, vI l4, vI l5, vI l6, vU] [vI t0] M K Q := by
  refine r_iload c288_1789 rfl ?_
  refine r_icmpP (P := t0 = l5) c288_1791 rfl (fun hc1 => ?_) (fun hc1 => ?_)
  · replace h := h.1 hc1
    refine r_iload c288_1796 rfl ?_
    refine r_ifP (P := ¬ l5 = (0 : Int)) c288_1798 rfl (fun hc2 => ?_) (fun hc2 => ?_)
    · replace h := h.1 hc2
      refine r_goto c288_1813 ?_
      exact h
    · have hc3 := Classical.not_not.mp hc2
      replace h := h.2 hc3
      refine r_aload_n c288_1801 rfl ?_
      refine r_iconst c288_1802 ?_
      obtain ⟨o4, h⟩ := h
      obtain ⟨s5, h⟩ := h
      refine r_lae c288_1803 (oK hK o4) s5 rfl ?_
      refine r_iload c288_1804 rfl ?_
      refine r_i2l c288_1806 ?_
      refine r_lcmp c288_1807 ?_
      refine r_ifP (P := (jcmp (M l3 0) l6) = (0 : Int)) c288_1808 rfl (fun hc6 => ?_) (fun hc6 => ?_)
      · replace h := h.1 hc6
        refine r_goto c288_1813 ?_
        exact h
      · replace h := h.2 hc6
        refine r_iconst c288_1811 ?_
        exact r_iret c288_1812 (by decide) h
  · replace h := h.2 hc1
    refine r_iconst c288_1794 ?_
    exact r_iret c288_1795 (by decide) h
theorem u288_1816 {d : Nat} {l0 : Nat} {l1 : Nat} {l2 : Nat} {l3 : Nat} {l4 : Int} {l5 : PV} {l6 : PV} {M : Mem} {K : KK} {Q : RR → Mem → KK → Prop} (hK : K.1 = 923) (hX : FX M)  (h : (0 ≤ (w32 (l4 + (1 : Int))) ∧ (w32 (l4 + (1 : Int))) < M 30 0) ∧ Wm d 281 [vR l1, vI (M 31 (Int.toNat (w32 (l4 + (1 : Int))))), vR l3] M K (Bk d 288 1824 1827 281 [vR 31, vR l1, vR l2, vR l3, vI l4, l5, l6, vU] [] Q)) : Wp (d + 1) 288 1816 [vR 31, vR l1, vR l2, vR l3, vI l4, l5, l6, vU] [] M K Q := by
  refine r_aload_n c288_1816 rfl ?_
  refine r_aload_n c288_1817 rfl ?_
  refine r_iload c288_1818 rfl ?_
  refine r_iconst c288_1820 ?_
  refine r_iadd c288_1821 ?_
  obtain ⟨s1, h⟩ := h
  refine r_iax c288_1822 s1 ?_
  refine r_aload_n c288_1823 rfl ?_
  exact r_call c288_1824 rfl rfl (Nat.le_of_ble_eq_true rfl) (okc_s rfl rfl rfl) h
theorem u288_1827 {d : Nat} {l0 : Nat} {l1 : Nat} {l2 : Nat} {l3 : Nat} {l4 : Int} {l5 : PV} {l6 : PV} {t0 : Int} {M : Mem} {K : KK} {Q : RR → Mem → KK → Prop} (hK : K.1 = 923) (hX : FX M)  (h : (0 ≤ (w32 (l4 + (1 : Int))) ∧ (w32 (l4 + (1 : Int))) < M 30 0) ∧ isO 923 l2 12 = true ∧ Wm d 242 [vR l2, vI (M 31 (Int.toNat (w32 (l4 + (1 : Int)))))] M K (Bk d 288 1836 1839 242 [vR 31, vR l1, vR l2, vR l3, vI l4, vI t0, l6, vU] [] Q)) : Wp (d + 1) 288 1827 [vR 31, vR l1, vR l2, vR l3, vI l4, l5, l6, vU] [vI t0] M K Q := by
  refine r_istore c288_1827 (Nat.le_of_ble_eq_true rfl) ?_
  refine r_aload_n c288_1829 rfl ?_
  refine r_aload_n c288_1830 rfl ?_
  refine r_iload c288_1831 rfl ?_
  refine r_iconst c288_1833 ?_
  refine r_iadd c288_1834 ?_
  obtain ⟨s1, h⟩ := h
  refine r_iax c288_1835 s1 ?_
  obtain ⟨o2, h⟩ := h
  exact r_call c288_1836 rfl rfl (Nat.le_of_ble_eq_true rfl) (okc_r rfl rfl (oK hK o2)) h
theorem u288_1839 {d : Nat} {l0 : Nat} {l1 : Nat} {l2 : Nat} {l3 : Nat} {l4 : Int} {l5 : Int} {l6 : PV} {t0 : Int} {M : Mem} {K : KK} {Q : RR → Mem → KK → Prop} (hK : K.1 = 923) (hX : FX M)  (h : isO 923 l2 12 = true ∧ Wm d 151 [vR l2] M K (Bk d 288 1842 1845 151 [vR 31, vR l1, vR l2, vR l3, vI l4, vI l5, vI t0, vU] [] Q)) : Wp (d + 1) 288 1839 [vR 31, vR l1, vR l2, vR l3, vI l4, vI l5, l6, vU] [vI t0] M K Q := by
  refine r_istore c288_1839 (Nat.le_of_ble_eq_true rfl) ?_
  refine r_aload_n c288_1841 rfl ?_
  obtain ⟨o1, h⟩ := h
  exact r_call c288_1842 rfl rfl (Nat.le_of_ble_eq_true rfl) (okc_r rfl rfl (oK hK o1)) h
theorem u288_1845 {d : Nat} {l0 : Nat} {l1 : Nat} {l2 : Nat} {l3 : Nat} {l4 : Int} {l5 : Int} {l6 : Int} {t0 : Int} {M : Mem} {K : KK} {Q : RR → Mem → KK → Prop} (hK : K.1 = 923) (hX : FX M)  (h : (t0 = l5 → (¬ l5 = (0 : Int) → Wp (d + 1) 288 2445 [vR 31, vR l1, vR l2, vR l3, vI l4, vI l5, vI l6, vU] [] M K Q) ∧ (l5 = (0 : Int) → isO 923 l3 22 = true ∧ (0 ≤ (0 : Int) ∧ (0 : Int) < (ln l3 : Int)) ∧ ((jcmp (M l3 0) l6) = (0 : Int) → Wp (d + 1) 288 2445 [vR 31, vR l1, vR l2, vR l3, vI l4, vI l5, vI l6, vU] [] M K Q) ∧ (¬ ((jcmp (M l3 0) l6) = (0 : Int)) → Q (.inl (some (vI (0 : Int)))) M K))) ∧ (¬ (t0 = l5) → Q (.inl (some (vI (0 : Int)))) M K)) : Wp (d + 1) 288 1845 [vR 31, vR l1, vR l2, vR l3, vI l4, vI l5, vI l6, vU] [vI t0] M K Q := by
  refine r_iload c288_1845 rfl ?_
  refine r_icmpP (P := t0 = l5) c288_1847 rfl (fun hc1 => ?_) (fun hc1 => ?_)
  · replace h := h.1 hc1
    refine r_iload c288_1852 rfl ?_
    refine r_ifP (P := ¬ l5 = (0 : Int)) c288_1854 rfl (fun hc2 => ?_) (fun hc2 => ?_)
    · replace h := h.1 hc2
      refine r_goto c288_1869 ?_
      exact h
    · have hc3 := Classical.not_not.mp hc2
      replace h := h.2 hc3
      refine r_aload_n c288_1857 rfl ?_
      refine r_iconst c288_1858 ?_
      obtain ⟨o4, h⟩ := h
      obtain ⟨s5, h⟩ := h
      refine r_lae c288_1859 (oK hK o4) s5 rfl ?_
      refine r_iload c288_1860 rfl ?_
      refine r_i2l c288_1862 ?_
      refine r_lcmp c288_1863 ?_
      refine r_ifP (P := (jcmp (M l3 0) l6) = (0 : Int)) c288_1864 rfl (fun hc6 => ?_) (fun hc6 => ?_)
      · replace h := h.1 hc6
        refine r_goto c288_1869 ?_
        exact h
      · replace h := h.2 hc6
        refine r_iconst c288_1867 ?_
        exact r_iret c288_1868 (by decide) h
  · replace h := h.2 hc1
    refine r_iconst c288_1850 ?_
    exact r_iret c288_1851 (by decide) h
theorem u288_1872 {d : Nat} {l0 : Nat} {l1 : Nat} {l2 : Nat} {l3 : Nat} {l4 : Int} {l5 : PV} {l6 : PV} {M : Mem} {K : KK} {Q : RR → Mem → KK → Prop} (hK : K.1 = 923) (hX : FX M)  (h : (0 ≤ (w32 (l4 + (1 : Int))) ∧ (w32 (l4 + (1 : Int))) < M 30 0) ∧ Wm d 282 [vR l1, vI (M 31 (Int.toNat (w32 (l4 + (1 : Int))))), vR l3] M K (Bk d 288 1880 1883 282 [vR 31, vR l1, vR l2, vR l3, vI l4, l5, l6, vU] [] Q)) : Wp (d + 1) 288 1872 [vR 31, vR l1, vR l2, vR l3, vI l4, l5, l6, vU] [] M K Q := by
  refine r_aload_n c288_1872 rfl ?_
  refine r_aload_n c288_1873 rfl ?_
  refine r_iload c288_1874 rfl ?_
  refine r_iconst c288_1876 ?_
  refine r_iadd c288_1877 ?_
  obtain ⟨s1, h⟩ := h
  refine r_iax c288_1878 s1 ?_
  refine r_aload_n c288_1879 rfl ?_
  exact r_call c288_1880 rfl rfl (Nat.le_of_ble_eq_true rfl) (okc_s rfl rfl rfl) h
theorem u288_1883 {d : Nat} {l0 : Nat} {l1 : Nat} {l2 : Nat} {l3 : Nat} {l4 : Int} {l5 : PV} {l6 : PV} {t0 : Int} {M : Mem} {K : KK} {Q : RR → Mem → KK → Prop} (hK : K.1 = 923) (hX : FX M)  (h : (0 ≤ (w32 (l4 + (1 : Int))) ∧ (w32 (l4 + (1 : Int))) < M 30 0) ∧ isO 923 l2 12 = true ∧ Wm d 246 [vR l2, vI (M 31 (Int.toNat (w32 (l4 + (1 : Int)))))] M K (Bk d 288 1892 1895 246 [vR 31, vR l1, vR l2, vR l3, vI l4, vI t0, l6, vU] [] Q)) : Wp (d + 1) 288 1883 [vR 31, vR l1, vR l2, vR l3, vI l4, l5, l6, vU] [vI t0] M K Q := by
  refine r_istore c288_1883 (Nat.le_of_ble_eq_true rfl) ?_
  refine r_aload_n c288_1885 rfl ?_
  refine r_aload_n c288_1886 rfl ?_
  refine r_iload c288_1887 rfl ?_
  refine r_iconst c288_1889 ?_
  refine r_iadd c288_1890 ?_
  obtain ⟨s1, h⟩ := h
  refine r_iax c288_1891 s1 ?_
  obtain ⟨o2, h⟩ := h
  exact r_call c288_1892 rfl rfl (Nat.le_of_ble_eq_true rfl) (okc_r rfl rfl (oK hK o2)) h
theorem u288_1895 {d : Nat} {l0 : Nat} {l1 : Nat} {l2 : Nat} {l3 : Nat} {l4 : Int} {l5 : Int} {l6 : PV} {t0 : Int} {M : Mem} {K : KK} {Q : RR → Mem → KK → Prop} (hK : K.1 = 923) (hX : FX M)  (h : isO 923 l2 12 = true ∧ Wm d 151 [vR l2] M K (Bk d 288 1898 1901 151 [vR 31, vR l1, vR l2, vR l3, vI l4, vI l5, vI t0, vU] [] Q)) : Wp (d + 1) 288 1895 [vR 31, vR l1, vR l2, vR l3, vI l4, vI l5, l6, vU] [vI t0] M K Q := by
  refine r_istore c288_1895 (Nat.le_of_ble_eq_true rfl) ?_
  refine r_aload_n c288_1897 rfl ?_
  obtain ⟨o1, h⟩ := h
  exact r_call c288_1898 rfl rfl (Nat.le_of_ble_eq_true rfl) (okc_r rfl rfl (oK hK o1)) h
theorem u288_1901 {d : Nat} {l0 : Nat} {l1 : Nat} {l2 : Nat} {l3 : Nat} {l4 : Int} {l5 : Int} {l6 : Int} {t0 : Int} {M : Mem} {K : KK} {Q : RR → Mem → KK → Prop} (hK : K.1 = 923) (hX : FX M)  (h : (t0 = l5 → (¬ l5 = (0 : Int) → Wp (d + 1) 288 2445 [vR 31, vR l1, vR l2, vR l3, vI l4, vI l5, vI l6, vU] [] M K Q) ∧ (l5 = (0 : Int) → isO 923 l3 22 = true ∧ (0 ≤ (0 : Int) ∧ (0 : Int) < (ln l3 : Int)) ∧ ((jcmp (M l3 0) l6) = (0 : Int) → Wp (d + 1) 288 2445 [vR 31, vR l1, vR l2, vR l3, vI l4, vI l5, vI l6, vU] [] M K Q) ∧ (¬ ((jcmp (M l3 0) l6) = (0 : Int)) → Q (.inl (some (vI (0 : Int)))) M K))) ∧ (¬ (t0 = l5) → Q (.inl (some (vI (0 : Int)))) M K)) : Wp (d + 1) 288 1901 [vR 31, vR l1, vR l2, vR l3, vI l4, vI l5, vI l6, vU] [vI t0] M K Q := by
  refine r_iload c288_1901 rfl ?_
  refine r_icmpP (P := t0 = l5) c288_1903 rfl (fun hc1 => ?_) (fun hc1 => ?_)
  · replace h := h.1 hc1
    refine r_iload c288_1908 rfl ?_
    refine r_ifP (P := ¬ l5 = (0 : Int)) c288_1910 rfl (fun hc2 => ?_) (fun hc2 => ?_)
    · replace h := h.1 hc2
      refine r_goto c288_1925 ?_
      exact h
    · have hc3 := Classical.not_not.mp hc2
      replace h := h.2 hc3
      refine r_aload_n c288_1913 rfl ?_
      refine r_iconst c288_1914 ?_
      obtain ⟨o4, h⟩ := h
      obtain ⟨s5, h⟩ := h
      refine r_lae c288_1915 (oK hK o4) s5 rfl ?_
      refine r_iload c288_1916 rfl ?_
      refine r_i2l c288_1918 ?_
      refine r_lcmp c288_1919 ?_
      refine r_ifP (P := (jcmp (M l3 0) l6) = (0 : Int)) c288_1920 rfl (fun hc6 => ?_) (fun hc6 => ?_)
      · replace h := h.1 hc6
        refine r_goto c288_1925 ?_
        exact h
      · replace h := h.2 hc6
        refine r_iconst c288_1923 ?_
        exact r_iret c288_1924 (by decide) h
  · replace h := h.2 hc1
    refine r_iconst c288_1906 ?_
    exact r_iret c288_1907 (by decide) h
theorem u288_1928 {d : Nat} {l0 : Nat} {l1 : Nat} {l2 : Nat} {l3 : Nat} {l4 : Int} {l5 : PV} {l6 : PV} {M : Mem} {K : KK} {Q : RR → Mem → KK → Prop} (hK : K.1 = 923) (hX : FX M)  (h : (0 ≤ (w32 (l4 + (1 : Int))) ∧ (w32 (l4 + (1 : Int))) < M 30 0) ∧ (0 ≤ (w32 (l4 + (2 : Int))) ∧ (w32 (l4 + (2 : Int))) < M 30 0) ∧ Wm d 283 [vR l1, vI (M 31 (Int.toNat (w32 (l4 + (1 : Int))))), vI (M 31 (Int.toNat (w32 (l4 + (2 : Int))))), vR l3] M K (Bk d 288 1942 1945 283 [vR 31, vR l1, vR l2, vR l3, vI l4, l5, l6, vU] [] Q)) : Wp (d + 1) 288 1928 [vR 31, vR l1, vR l2, vR l3, vI l4, l5, l6, vU] [] M K Q := by
  refine r_aload_n c288_1928 rfl ?_
  refine r_aload_n c288_1929 rfl ?_
  refine r_iload c288_1930 rfl ?_
  refine r_iconst c288_1932 ?_
  refine r_iadd c288_1933 ?_
  obtain ⟨s1, h⟩ := h
  refine r_iax c288_1934 s1 ?_
  refine r_aload_n c288_1935 rfl ?_
  refine r_iload c288_1936 rfl ?_
  refine r_iconst c288_1938 ?_
  refine r_iadd c288_1939 ?_
  obtain ⟨s2, h⟩ := h
  refine r_iax c288_1940 s2 ?_
  refine r_aload_n c288_1941 rfl ?_
  exact r_call c288_1942 rfl rfl (Nat.le_of_ble_eq_true rfl) (okc_s rfl rfl rfl) h
theorem u288_1945 {d : Nat} {l0 : Nat} {l1 : Nat} {l2 : Nat} {l3 : Nat} {l4 : Int} {l5 : PV} {l6 : PV} {t0 : Int} {M : Mem} {K : KK} {Q : RR → Mem → KK → Prop} (hK : K.1 = 923) (hX : FX M)  (h : (0 ≤ (w32 (l4 + (1 : Int))) ∧ (w32 (l4 + (1 : Int))) < M 30 0) ∧ (0 ≤ (w32 (l4 + (2 : Int))) ∧ (w32 (l4 + (2 : Int))) < M 30 0) ∧ isO 923 l2 12 = true ∧ Wm d 247 [vR l2, vI (M 31 (Int.toNat (w32 (l4 + (1 : Int))))), vI (M 31 (Int.toNat (w32 (l4 + (2 : Int)))))] M K (Bk d 288 1960 1963 247 [vR 31, vR l1, vR l2, vR l3, vI l4, vI t0, l6, vU] [] Q)) : Wp (d + 1) 288 1945 [vR 31, vR l1, vR l2, vR l3, vI l4, l5, l6, vU] [vI t0] M K Q := by
  refine r_istore c288_1945 (Nat.le_of_ble_eq_true rfl) ?_
  refine r_aload_n c288_1947 rfl ?_
  refine r_aload_n c288_1948 rfl ?_
  refine r_iload c288_1949 rfl ?_
  refine r_iconst c288_1951 ?_
  refine r_iadd c288_1952 ?_
  obtain ⟨s1, h⟩ := h
  refine r_iax c288_1953 s1 ?_
  refine r_aload_n c288_1954 rfl ?_
  refine r_iload c288_1955 rfl ?_
  refine r_iconst c288_1957 ?_
  refine r_iadd c288_1958 ?_
  obtain ⟨s2, h⟩ := h
  refine r_iax c288_1959 s2 ?_
  obtain ⟨o3, h⟩ := h
  exact r_call c288_1960 rfl rfl (Nat.le_of_ble_eq_true rfl) (okc_r rfl rfl (oK hK o3)) h
theorem u288_1963 {d : Nat} {l0 : Nat} {l1 : Nat} {l2 : Nat} {l3 : Nat} {l4 : Int} {l5 : Int} {l6 : PV} {t0 : Int} {M : Mem} {K : KK} {Q : RR → Mem → KK → Prop} (hK : K.1 = 923) (hX : FX M)  (h : isO 923 l2 12 = true ∧ Wm d 151 [vR l2] M K (Bk d 288 1966 1969 151 [vR 31, vR l1, vR l2, vR l3, vI l4, vI l5, vI t0, vU] [] Q)) : Wp (d + 1) 288 1963 [vR 31, vR l1, vR l2, vR l3, vI l4, vI l5, l6, vU] [vI t0] M K Q := by
  refine r_istore c288_1963 (Nat.le_of_ble_eq_true rfl) ?_
  refine r_aload_n c288_1965 rfl ?_
  obtain ⟨o1, h⟩ := h
  exact r_call c288_1966 rfl rfl (Nat.le_of_ble_eq_true rfl) (okc_r rfl rfl (oK hK o1)) h
theorem u288_1969 {d : Nat} {l0 : Nat} {l1 : Nat} {l2 : Nat} {l3 : Nat} {l4 : Int} {l5 : Int} {l6 : Int} {t0 : Int} {M : Mem} {K : KK} {Q : RR → Mem → KK → Prop} (hK : K.1 = 923) (hX : FX M)  (h : (t0 = l5 → (¬ l5 = (0 : Int) → Wp (d + 1) 288 2445 [vR 31, vR l1, vR l2, vR l3, vI l4, vI l5, vI l6, vU] [] M K Q) ∧ (l5 = (0 : Int) → isO 923 l3 22 = true ∧ (0 ≤ (0 : Int) ∧ (0 : Int) < (ln l3 : Int)) ∧ ((jcmp (M l3 0) l6) = (0 : Int) → Wp (d + 1) 288 2445 [vR 31, vR l1, vR l2, vR l3, vI l4, vI l5, vI l6, vU] [] M K Q) ∧ (¬ ((jcmp (M l3 0) l6) = (0 : Int)) → Q (.inl (some (vI (0 : Int)))) M K))) ∧ (¬ (t0 = l5) → Q (.inl (some (vI (0 : Int)))) M K)) : Wp (d + 1) 288 1969 [vR 31, vR l1, vR l2, vR l3, vI l4, vI l5, vI l6, vU] [vI t0] M K Q := by
  refine r_iload c288_1969 rfl ?_
  refine r_icmpP (P := t0 = l5) c288_1971 rfl (fun hc1 => ?_) (fun hc1 => ?_)
  · replace h := h.1 hc1
    refine r_iload c288_1976 rfl ?_
    refine r_ifP (P := ¬ l5 = (0 : Int)) c288_1978 rfl (fun hc2 => ?_) (fun hc2 => ?_)
    · replace h := h.1 hc2
      refine r_goto c288_1993 ?_
      exact h
    · have hc3 := Classical.not_not.mp hc2
      replace h := h.2 hc3
      refine r_aload_n c288_1981 rfl ?_
      refine r_iconst c288_1982 ?_
      obtain ⟨o4, h⟩ := h
      obtain ⟨s5, h⟩ := h
      refine r_lae c288_1983 (oK hK o4) s5 rfl ?_
      refine r_iload c288_1984 rfl ?_
      refine r_i2l c288_1986 ?_
      refine r_lcmp c288_1987 ?_
      refine r_ifP (P := (jcmp (M l3 0) l6) = (0 : Int)) c288_1988 rfl (fun hc6 => ?_) (fun hc6 => ?_)
      · replace h := h.1 hc6
        refine r_goto c288_1993 ?_
        exact h
      · replace h := h.2 hc6
        refine r_iconst c288_1991 ?_
        exact r_iret c288_1992 (by decide) h
  · replace h := h.2 hc1
    refine r_iconst c288_1974 ?_
    exact r_iret c288_1975 (by decide) h
theorem u288_1996 {d : Nat} {l0 : Nat} {l1 : Nat} {l2 : Nat} {l3 : Nat} {l4 : Int} {l5 : PV} {l6 : PV} {M : Mem} {K : KK} {Q : RR → Mem → KK → Prop} (hK : K.1 = 923) (hX : FX M)  (h : (0 ≤ (w32 (l4 + (1 : Int))) ∧ (w32 (l4 + (1 : Int))) < M 30 0) ∧ (0 ≤ (w32 (l4 + (2 : Int))) ∧ (w32 (l4 + (2 : Int))) < M 30 0) ∧ Wm d 284 [vR l1, vI (M 31 (Int.toNat (w32 (l4 + (1 : Int))))), vI (M 31 (Int.toNat (w32 (l4 + (2 : Int))))), vR l3] M K (Bk d 288 2010 2013 284 [vR 31, vR l1, vR l2, vR l3, vI l4, l5, l6, vU] [] Q)) : Wp (d + 1) 288 1996 [vR 31, vR l1, vR l2, vR l3, vI l4, l5, l6, vU] [] M K Q := by
  refine r_aload_n c288_1996 rfl ?_
  refine r_aload_n c288_1997 rfl ?_
  refine r_iload c288_1998 rfl ?_
  refine r_iconst c288_2000 ?_
  refine r_iadd c288_2001 ?_
  obtain ⟨s1, h⟩ := h
  refine r_iax c288_2002 s1 ?_
  refine r_aload_n c288_2003 rfl ?_
  refine r_iload c288_2004 rfl ?_
  refine r_iconst c288_2006 ?_
  refine r_iadd c288_2007 ?_
  obtain ⟨s2, h⟩ := h
  refine r_iax c288_2008 s2 ?_
  refine r_aload_n c288_2009 rfl ?_
  exact r_call c288_2010 rfl rfl (Nat.le_of_ble_eq_true rfl) (okc_s rfl rfl rfl) h
theorem u288_2013 {d : Nat} {l0 : Nat} {l1 : Nat} {l2 : Nat} {l3 : Nat} {l4 : Int} {l5 : PV} {l6 : PV} {t0 : Int} {M : Mem} {K : KK} {Q : RR → Mem → KK → Prop} (hK : K.1 = 923) (hX : FX M)  (h : (0 ≤ (w32 (l4 + (1 : Int))) ∧ (w32 (l4 + (1 : Int))) < M 30 0) ∧ (0 ≤ (w32 (l4 + (2 : Int))) ∧ (w32 (l4 + (2 : Int))) < M 30 0) ∧ isO 923 l2 12 = true ∧ Wm d 243 [vR l2, vI (M 31 (Int.toNat (w32 (l4 + (1 : Int))))), vI (M 31 (Int.toNat (w32 (l4 + (2 : Int)))))] M K (Bk d 288 2028 2031 243 [vR 31, vR l1, vR l2, vR l3, vI l4, vI t0, l6, vU] [] Q)) : Wp (d + 1) 288 2013 [vR 31, vR l1, vR l2, vR l3, vI l4, l5, l6, vU] [vI t0] M K Q := by
  refine r_istore c288_2013 (Nat.le_of_ble_eq_true rfl) ?_
  refine r_aload_n c288_2015 rfl ?_
  refine r_aload_n c288_2016 rfl ?_
  refine r_iload c288_2017 rfl ?_
  refine r_iconst c288_2019 ?_
  refine r_iadd c288_2020 ?_
  obtain ⟨s1, h⟩ := h
  refine r_iax c288_2021 s1 ?_
  refine r_aload_n c288_2022 rfl ?_
  refine r_iload c288_2023 rfl ?_
  refine r_iconst c288_2025 ?_
  refine r_iadd c288_2026 ?_
  obtain ⟨s2, h⟩ := h
  refine r_iax c288_2027 s2 ?_
  obtain ⟨o3, h⟩ := h
  exact r_call c288_2028 rfl rfl (Nat.le_of_ble_eq_true rfl) (okc_r rfl rfl (oK hK o3)) h
theorem u288_2031 {d : Nat} {l0 : Nat} {l1 : Nat} {l2 : Nat} {l3 : Nat} {l4 : Int} {l5 : Int} {l6 : PV} {t0 : Int} {M : Mem} {K : KK} {Q : RR → Mem → KK → Prop} (hK : K.1 = 923) (hX : FX M)  (h : isO 923 l2 12 = true ∧ Wm d 151 [vR l2] M K (Bk d 288 2034 2037 151 [vR 31, vR l1, vR l2, vR l3, vI l4, vI l5, vI t0, vU] [] Q)) : Wp (d + 1) 288 2031 [vR 31, vR l1, vR l2, vR l3, vI l4, vI l5, l6, vU] [vI t0] M K Q := by
  refine r_istore c288_2031 (Nat.le_of_ble_eq_true rfl) ?_
  refine r_aload_n c288_2033 rfl ?_
  obtain ⟨o1, h⟩ := h
  exact r_call c288_2034 rfl rfl (Nat.le_of_ble_eq_true rfl) (okc_r rfl rfl (oK hK o1)) h
theorem u288_2037 {d : Nat} {l0 : Nat} {l1 : Nat} {l2 : Nat} {l3 : Nat} {l4 : Int} {l5 : Int} {l6 : Int} {t0 : Int} {M : Mem} {K : KK} {Q : RR → Mem → KK → Prop} (hK : K.1 = 923) (hX : FX M)  (h : (t0 = l5 → (¬ l5 = (0 : Int) → Wp (d + 1) 288 2445 [vR 31, vR l1, vR l2, vR l3, vI l4, vI l5, vI l6, vU] [] M K Q) ∧ (l5 = (0 : Int) → isO 923 l3 22 = true ∧ (0 ≤ (0 : Int) ∧ (0 : Int) < (ln l3 : Int)) ∧ ((jcmp (M l3 0) l6) = (0 : Int) → Wp (d + 1) 288 2445 [vR 31, vR l1, vR l2, vR l3, vI l4, vI l5, vI l6, vU] [] M K Q) ∧ (¬ ((jcmp (M l3 0) l6) = (0 : Int)) → Q (.inl (some (vI (0 : Int)))) M K))) ∧ (¬ (t0 = l5) → Q (.inl (some (vI (0 : Int)))) M K)) : Wp (d + 1) 288 2037 [vR 31, vR l1, vR l2, vR l3, vI l4, vI l5, vI l6, vU] [vI t0] M K Q := by
  refine r_iload c288_2037 rfl ?_
  refine r_icmpP (P := t0 = l5) c288_2039 rfl (fun hc1 => ?_) (fun hc1 => ?_)
  · replace h := h.1 hc1
    refine r_iload c288_2044 rfl ?_
    refine r_ifP (P := ¬ l5 = (0 : Int)) c288_2046 rfl (fun hc2 => ?_) (fun hc2 => ?_)
    · replace h := h.1 hc2
      refine r_goto c288_2061 ?_
      exact h
    · have hc3 := Classical.not_not.mp hc2
      replace h := h.2 hc3
      refine r_aload_n c288_2049 rfl ?_
      refine r_iconst c288_2050 ?_
      obtain ⟨o4, h⟩ := h
      obtain ⟨s5, h⟩ := h
      refine r_lae c288_2051 (oK hK o4) s5 rfl ?_
      refine r_iload c288_2052 rfl ?_
      refine r_i2l c288_2054 ?_
      refine r_lcmp c288_2055 ?_
      refine r_ifP (P := (jcmp (M l3 0) l6) = (0 : Int)) c288_2056 rfl (fun hc6 => ?_) (fun hc6 => ?_)
      · replace h := h.1 hc6
        refine r_goto c288_2061 ?_
        exact h
      · replace h := h.2 hc6
        refine r_iconst c288_2059 ?_
        exact r_iret c288_2060 (by decide) h
  · replace h := h.2 hc1
    refine r_iconst c288_2042 ?_
    exact r_iret c288_2043 (by decide) h
theorem u288_2064 {d : Nat} {l0 : Nat} {l1 : Nat} {l2 : Nat} {l3 : Nat} {l4 : Int} {l5 : PV} {l6 : PV} {M : Mem} {K : KK} {Q : RR → Mem → KK → Prop} (hK : K.1 = 923) (hX : FX M)  (h : (0 ≤ (w32 (l4 + (1 : Int))) ∧ (w32 (l4 + (1 : Int))) < M 30 0) ∧ Wm d 285 [vR l1, vI (M 31 (Int.toNat (w32 (l4 + (1 : Int))))), vR l3] M K (Bk d 288 2072 2075 285 [vR 31, vR l1, vR l2, vR l3, vI l4, l5, l6, vU] [] Q)) : Wp (d + 1) 288 2064 [vR 31, vR l1, vR l2, vR l3, vI l4, l5, l6, vU] [] M K Q := by
  refine r_aload_n c288_2064 rfl ?_
  refine r_aload_n c288_2065 rfl ?_
  refine r_iload c288_2066 rfl ?_
  refine r_iconst c288_2068 ?_
  refine r_iadd c288_2069 ?_
  obtain ⟨s1, h⟩ := h
  refine r_iax c288_2070 s1 ?_
  refine r_aload_n c288_2071 rfl ?_
  exact r_call c288_2072 rfl rfl (Nat.le_of_ble_eq_true rfl) (okc_s rfl rfl rfl) h
theorem u288_2075 {d : Nat} {l0 : Nat} {l1 : Nat} {l2 : Nat} {l3 : Nat} {l4 : Int} {l5 : PV} {l6 : PV} {t0 : Int} {M : Mem} {K : KK} {Q : RR → Mem → KK → Prop} (hK : K.1 = 923) (hX : FX M)  (h : (0 ≤ (w32 (l4 + (1 : Int))) ∧ (w32 (l4 + (1 : Int))) < M 30 0) ∧ isO 923 l2 12 = true ∧ Wm d 244 [vR l2, vI (M 31 (Int.toNat (w32 (l4 + (1 : Int)))))] M K (Bk d 288 2084 2087 244 [vR 31, vR l1, vR l2, vR l3, vI l4, vI t0, l6, vU] [] Q)) : Wp (d + 1) 288 2075 [vR 31, vR l1, vR l2, vR l3, vI l4, l5, l6, vU] [vI t0] M K Q := by
  refine r_istore c288_2075 (Nat.le_of_ble_eq_true rfl) ?_
  refine r_aload_n c288_2077 rfl ?_
  refine r_aload_n c288_2078 rfl ?_
  refine r_iload c288_2079 rfl ?_
  refine r_iconst c288_2081 ?_
  refine r_iadd c288_2082 ?_
  obtain ⟨s1, h⟩ := h
  refine r_iax c288_2083 s1 ?_
  obtain ⟨o2, h⟩ := h
  exact r_call c288_2084 rfl rfl (Nat.le_of_ble_eq_true rfl) (okc_r rfl rfl (oK hK o2)) h
theorem u288_2087 {d : Nat} {l0 : Nat} {l1 : Nat} {l2 : Nat} {l3 : Nat} {l4 : Int} {l5 : Int} {l6 : PV} {t0 : Int} {M : Mem} {K : KK} {Q : RR → Mem → KK → Prop} (hK : K.1 = 923) (hX : FX M)  (h : isO 923 l2 12 = true ∧ Wm d 151 [vR l2] M K (Bk d 288 2090 2093 151 [vR 31, vR l1, vR l2, vR l3, vI l4, vI l5, vI t0, vU] [] Q)) : Wp (d + 1) 288 2087 [vR 31, vR l1, vR l2, vR l3, vI l4, vI l5, l6, vU] [vI t0] M K Q := by
  refine r_istore c288_2087 (Nat.le_of_ble_eq_true rfl) ?_
  refine r_aload_n c288_2089 rfl ?_
  obtain ⟨o1, h⟩ := h
  exact r_call c288_2090 rfl rfl (Nat.le_of_ble_eq_true rfl) (okc_r rfl rfl (oK hK o1)) h
theorem u288_2093 {d : Nat} {l0 : Nat} {l1 : Nat} {l2 : Nat} {l3 : Nat} {l4 : Int} {l5 : Int} {l6 : Int} {t0 : Int} {M : Mem} {K : KK} {Q : RR → Mem → KK → Prop} (hK : K.1 = 923) (hX : FX M)  (h : (t0 = l5 → (¬ l5 = (0 : Int) → Wp (d + 1) 288 2445 [vR 31, vR l1, vR l2, vR l3, vI l4, vI l5, vI l6, vU] [] M K Q) ∧ (l5 = (0 : Int) → isO 923 l3 22 = true ∧ (0 ≤ (0 : Int) ∧ (0 : Int) < (ln l3 : Int)) ∧ ((jcmp (M l3 0) l6) = (0 : Int) → Wp (d + 1) 288 2445 [vR 31, vR l1, vR l2, vR l3, vI l4, vI l5, vI l6, vU] [] M K Q) ∧ (¬ ((jcmp (M l3 0) l6) = (0 : Int)) → Q (.inl (some (vI (0 : Int)))) M K))) ∧ (¬ (t0 = l5) → Q (.inl (some (vI (0 : Int)))) M K)) : Wp (d + 1) 288 2093 [vR 31, vR l1, vR l2, vR l3, vI l4, vI l5, vI l6, vU] [vI t0] M K Q := by
  refine r_iload c288_2093 rfl ?_
  refine r_icmpP (P := t0 = l5) c288_2095 rfl (fun hc1 => ?_) (fun hc1 => ?_)
  · replace h := h.1 hc1
    refine r_iload c288_2100 rfl ?_
    refine r_ifP (P := ¬ l5 = (0 : Int)) c288_2102 rfl (fun hc2 => ?_) (fun hc2 => ?_)
    · replace h := h.1 hc2
      refine r_goto c288_2117 ?_
      exact h
    · have hc3 := Classical.not_not.mp hc2
      replace h := h.2 hc3
      refine r_aload_n c288_2105 rfl ?_
      refine r_iconst c288_2106 ?_
      obtain ⟨o4, h⟩ := h
      obtain ⟨s5, h⟩ := h
      refine r_lae c288_2107 (oK hK o4) s5 rfl ?_
      refine r_iload c288_2108 rfl ?_
      refine r_i2l c288_2110 ?_
      refine r_lcmp c288_2111 ?_
      refine r_ifP (P := (jcmp (M l3 0) l6) = (0 : Int)) c288_2112 rfl (fun hc6 => ?_) (fun hc6 => ?_)
      · replace h := h.1 hc6
        refine r_goto c288_2117 ?_
        exact h
      · replace h := h.2 hc6
        refine r_iconst c288_2115 ?_
        exact r_iret c288_2116 (by decide) h
  · replace h := h.2 hc1
    refine r_iconst c288_2098 ?_
    exact r_iret c288_2099 (by decide) h
theorem u288_2120 {d : Nat} {l0 : Nat} {l1 : Nat} {l2 : Nat} {l3 : Nat} {l4 : Int} {l5 : PV} {l6 : PV} {M : Mem} {K : KK} {Q : RR → Mem → KK → Prop} (hK : K.1 = 923) (hX : FX M)  (h : isO 923 l1 11 = true ∧ Wm d 129 [vR l1] M K (Bk d 288 2121 2124 129 [vR 31, vR l1, vR l2, vR l3, vI l4, l5, l6, vU] [] Q)) : Wp (d + 1) 288 2120 [vR 31, vR l1, vR l2, vR l3, vI l4, l5, l6, vU] [] M K Q := by
  refine r_aload_n c288_2120 rfl ?_
  obtain ⟨o1, h⟩ := h
  exact r_call c288_2121 rfl rfl (Nat.le_of_ble_eq_true rfl) (okc_r rfl rfl (oK hK o1)) h
theorem u288_2124 {d : Nat} {l0 : Nat} {l1 : Nat} {l2 : Nat} {l3 : Nat} {l4 : Int} {l5 : PV} {l6 : PV} {t0 : Int} {M : Mem} {K : KK} {Q : RR → Mem → KK → Prop} (hK : K.1 = 923) (hX : FX M)  (h : isO 923 l2 12 = true ∧ Wm d 245 [vR l2] M K (Bk d 288 2125 2128 245 [vR 31, vR l1, vR l2, vR l3, vI l4, l5, l6, vU] [vI t0] Q)) : Wp (d + 1) 288 2124 [vR 31, vR l1, vR l2, vR l3, vI l4, l5, l6, vU] [vI t0] M K Q := by
  refine r_aload_n c288_2124 rfl ?_
  obtain ⟨o1, h⟩ := h
  exact r_call c288_2125 rfl rfl (Nat.le_of_ble_eq_true rfl) (okc_r rfl rfl (oK hK o1)) h
theorem u288_2128 {d : Nat} {l0 : Nat} {l1 : Nat} {l2 : Nat} {l3 : Nat} {l4 : Int} {l5 : PV} {l6 : PV} {t0 : Int} {t1 : Int} {M : Mem} {K : KK} {Q : RR → Mem → KK → Prop} (hK : K.1 = 923) (hX : FX M)  (h : (t0 = t1 → Wp (d + 1) 288 2445 [vR 31, vR l1, vR l2, vR l3, vI l4, l5, l6, vU] [] M K Q) ∧ (¬ (t0 = t1) → Q (.inl (some (vI (0 : Int)))) M K)) : Wp (d + 1) 288 2128 [vR 31, vR l1, vR l2, vR l3, vI l4, l5, l6, vU] [vI t1, vI t0] M K Q := by
  refine r_icmpP (P := t0 = t1) c288_2128 rfl (fun hc1 => ?_) (fun hc1 => ?_)
  · replace h := h.1 hc1
    exact h
  · replace h := h.2 hc1
    refine r_iconst c288_2131 ?_
    exact r_iret c288_2132 (by decide) h
theorem u288_2133 {d : Nat} {l0 : Nat} {l1 : Nat} {l2 : Nat} {l3 : Nat} {l4 : Int} {l5 : PV} {l6 : PV} {M : Mem} {K : KK} {Q : RR → Mem → KK → Prop} (hK : K.1 = 923) (hX : FX M)  (h : (0 ≤ (w32 (l4 + (1 : Int))) ∧ (w32 (l4 + (1 : Int))) < M 30 0) ∧ (0 ≤ (w32 (l4 + (2 : Int))) ∧ (w32 (l4 + (2 : Int))) < M 30 0) ∧ (0 ≤ (w32 (l4 + (3 : Int))) ∧ (w32 (l4 + (3 : Int))) < M 30 0) ∧ (0 ≤ (w32 (l4 + (4 : Int))) ∧ (w32 (l4 + (4 : Int))) < M 30 0) ∧ (0 ≤ (w32 (l4 + (5 : Int))) ∧ (w32 (l4 + (5 : Int))) < M 30 0) ∧ Wm d 286 [vR l1, vI (M 31 (Int.toNat (w32 (l4 + (1 : Int))))), vI (M 31 (Int.toNat (w32 (l4 + (2 : Int))))), vI (M 31 (Int.toNat (w32 (l4 + (3 : Int))))), vI (M 31 (Int.toNat (w32 (l4 + (4 : Int))))), vI (M 31 (Int.toNat (w32 (l4 + (5 : Int))))), vR l3] M K (Bk d 288 2165 2168 286 [vR 31, vR l1, vR l2, vR l3, vI l4, l5, l6, vU] [] Q)) : Wp (d + 1) 288 2133 [vR 31, vR l1, vR l2, vR l3, vI l4, l5, l6, vU] [] M K Q := by
  refine r_aload_n c288_2133 rfl ?_
  refine r_aload_n c288_2134 rfl ?_
  refine r_iload c288_2135 rfl ?_
  refine r_iconst c288_2137 ?_
  refine r_iadd c288_2138 ?_
  obtain ⟨s1, h⟩ := h
  refine r_iax c288_2139 s1 ?_
  refine r_aload_n c288_2140 rfl ?_
  refine r_iload c288_2141 rfl ?_
  refine r_iconst c288_2143 ?_
  refine r_iadd c288_2144 ?_
  obtain ⟨s2, h⟩ := h
  refine r_iax c288_2145 s2 ?_
  refine r_aload_n c288_2146 rfl ?_
  refine r_iload c288_2147 rfl ?_
  refine r_iconst c288_2149 ?_
  refine r_iadd c288_2150 ?_
  obtain ⟨s3, h⟩ := h
  refine r_iax c288_2151 s3 ?_
  refine r_aload_n c288_2152 rfl ?_
  refine r_iload c288_2153 rfl ?_
  refine r_iconst c288_2155 ?_
  refine r_iadd c288_2156 ?_
  obtain ⟨s4, h⟩ := h
  refine r_iax c288_2157 s4 ?_
  refine r_aload_n c288_2158 rfl ?_
  refine r_iload c288_2159 rfl ?_
  refine r_iconst c288_2161 ?_
  refine r_iadd c288_2162 ?_
  obtain ⟨s5, h⟩ := h
  refine r_iax c288_2163 s5 ?_
  refine r_aload_n c288_2164 rfl ?_
  exact r_call c288_2165 rfl rfl (Nat.le_of_ble_eq_true rfl) (okc_s rfl rfl rfl) h
theorem u288_2168 {d : Nat} {l0 : Nat} {l1 : Nat} {l2 : Nat} {l3 : Nat} {l4 : Int} {l5 : PV} {l6 : PV} {t0 : Int} {M : Mem} {K : KK} {Q : RR → Mem → KK → Prop} (hK : K.1 = 923) (hX : FX M)  (h : (0 ≤ (w32 (l4 + (1 : Int))) ∧ (w32 (l4 + (1 : Int))) < M 30 0) ∧ (0 ≤ (w32 (l4 + (2 : Int))) ∧ (w32 (l4 + (2 : Int))) < M 30 0) ∧ (0 ≤ (w32 (l4 + (3 : Int))) ∧ (w32 (l4 + (3 : Int))) < M 30 0) ∧ (0 ≤ (w32 (l4 + (4 : Int))) ∧ (w32 (l4 + (4 : Int))) < M 30 0) ∧ (0 ≤ (w32 (l4 + (5 : Int))) ∧ (w32 (l4 + (5 : Int))) < M 30 0) ∧ isO 923 l2 12 = true ∧ Wm d 251 [vR l2, vI (M 31 (Int.toNat (w32 (l4 + (1 : Int))))), vI (M 31 (Int.toNat (w32 (l4 + (2 : Int))))), vI (M 31 (Int.toNat (w32 (l4 + (3 : Int))))), vI (M 31 (Int.toNat (w32 (l4 + (4 : Int))))), vI (M 31 (Int.toNat (w32 (l4 + (5 : Int)))))] M K (Bk d 288 2201 2204 251 [vR 31, vR l1, vR l2, vR l3, vI l4, vI t0, l6, vU] [] Q)) : Wp (d + 1) 288 2168 [vR 31, vR l1, vR l2, vR l3, vI l4, l5, l6, vU] [vI t0] M K Q := by
  refine r_istore c288_2168 (Nat.le_of_ble_eq_true rfl) ?_
  refine r_aload_n c288_2170 rfl ?_
  refine r_aload_n c288_2171 rfl ?_
  refine r_iload c288_2172 rfl ?_
  refine r_iconst c288_2174 ?_
  refine r_iadd c288_2175 ?_
  obtain ⟨s1, h⟩ := h
  refine r_iax c288_2176 s1 ?_
  refine r_aload_n c288_2177 rfl ?_
  refine r_iload c288_2178 rfl ?_
  refine r_iconst c288_2180 ?_
  refine r_iadd c288_2181 ?_
  obtain ⟨s2, h⟩ := h
  refine r_iax c288_2182 s2 ?_
  refine r_aload_n c288_2183 rfl ?_
  refine r_iload c288_2184 rfl ?_
  refine r_iconst c288_2186 ?_
  refine r_iadd c288_2187 ?_
  obtain ⟨s3, h⟩ := h
  refine r_iax c288_2188 s3 ?_
  refine r_aload_n c288_2189 rfl ?_
  refine r_iload c288_2190 rfl ?_
  refine r_iconst c288_2192 ?_
  refine r_iadd c288_2193 ?_
  obtain ⟨s4, h⟩ := h
  refine r_iax c288_2194 s4 ?_
  refine r_aload_n c288_2195 rfl ?_
  refine r_iload c288_2196 rfl ?_
  refine r_iconst c288_2198 ?_
  refine r_iadd c288_2199 ?_
  obtain ⟨s5, h⟩ := h
  refine r_iax c288_2200 s5 ?_
  obtain ⟨o6, h⟩ := h
  exact r_call c288_2201 rfl rfl (Nat.le_of_ble_eq_true rfl) (okc_r rfl rfl (oK hK o6)) h
theorem u288_2204 {d : Nat} {l0 : Nat} {l1 : Nat} {l2 : Nat} {l3 : Nat} {l4 : Int} {l5 : Int} {l6 : PV} {t0 : Int} {M : Mem} {K : KK} {Q : RR → Mem → KK → Prop} (hK : K.1 = 923) (hX : FX M)  (h : isO 923 l2 12 = true ∧ Wm d 151 [vR l2] M K (Bk d 288 2207 2210 151 [vR 31, vR l1, vR l2, vR l3, vI l4, vI l5, vI t0, vU] [] Q)) : Wp (d + 1) 288 2204 [vR 31, vR l1, vR l2, vR l3, vI l4, vI l5, l6, vU] [vI t0] M K Q := by
  refine r_istore c288_2204 (Nat.le_of_ble_eq_true rfl) ?_
  refine r_aload_n c288_2206 rfl ?_
  obtain ⟨o1, h⟩ := h
  exact r_call c288_2207 rfl rfl (Nat.le_of_ble_eq_true rfl) (okc_r rfl rfl (oK hK o1)) h
theorem u288_2210 {d : Nat} {l0 : Nat} {l1 : Nat} {l2 : Nat} {l3 : Nat} {l4 : Int} {l5 : Int} {l6 : Int} {t0 : Int} {M : Mem} {K : KK} {Q : RR → Mem → KK → Prop} (hK : K.1 = 923) (hX : FX M)  (h : (t0 = l5 → (¬ l5 = (0 : Int) → Wp (d + 1) 288 2445 [vR 31, vR l1, vR l2, vR l3, vI l4, vI l5, vI l6, vU] [] M K Q) ∧ (l5 = (0 : Int) → isO 923 l3 22 = true ∧ (0 ≤ (0 : Int) ∧ (0 : Int) < (ln l3 : Int)) ∧ ((jcmp (M l3 0) l6) = (0 : Int) → Wp (d + 1) 288 2445 [vR 31, vR l1, vR l2, vR l3, vI l4, vI l5, vI l6, vU] [] M K Q) ∧ (¬ ((jcmp (M l3 0) l6) = (0 : Int)) → Q (.inl (some (vI (0 : Int)))) M K))) ∧ (¬ (t0 = l5) → Q (.inl (some (vI (0 : Int)))) M K)) : Wp (d + 1) 288 2210 [vR 31, vR l1, vR l2, vR l3, vI l4, vI l5, vI l6, vU] [vI t0] M K Q := by
  refine r_iload c288_2210 rfl ?_
  refine r_icmpP (P := t0 = l5) c288_2212 rfl (fun hc1 => ?_) (fun hc1 => ?_)
  · replace h := h.1 hc1
    refine r_iload c288_2217 rfl ?_
    refine r_ifP (P := ¬ l5 = (0 : Int)) c288_2219 rfl (fun hc2 => ?_) (fun hc2 => ?_)
    · replace h := h.1 hc2
      refine r_goto c288_2234 ?_
      exact h
    · have hc3 := Classical.not_not.mp hc2
      replace h := h.2 hc3
      refine r_aload_n c288_2222 rfl ?_
      refine r_iconst c288_2223 ?_
      obtain ⟨o4, h⟩ := h
      obtain ⟨s5, h⟩ := h
      refine r_lae c288_2224 (oK hK o4) s5 rfl ?_
      refine r_iload c288_2225 rfl ?_
      refine r_i2l c288_2227 ?_
      refine r_lcmp c288_2228 ?_
      refine r_ifP (P := (jcmp (M l3 0) l6) = (0 : Int)) c288_2229 rfl (fun hc6 => ?_) (fun hc6 => ?_)
      · replace h := h.1 hc6
        refine r_goto c288_2234 ?_
        exact h
      · replace h := h.2 hc6
        refine r_iconst c288_2232 ?_
        exact r_iret c288_2233 (by decide) h
  · replace h := h.2 hc1
    refine r_iconst c288_2215 ?_
    exact r_iret c288_2216 (by decide) h
theorem u288_2237 {d : Nat} {l0 : Nat} {l1 : Nat} {l2 : Nat} {l3 : Nat} {l4 : Int} {l5 : PV} {l6 : PV} {M : Mem} {K : KK} {Q : RR → Mem → KK → Prop} (hK : K.1 = 923) (hX : FX M)  (h : (0 ≤ (w32 (l4 + (1 : Int))) ∧ (w32 (l4 + (1 : Int))) < M 30 0) ∧ (0 ≤ (w32 (l4 + (2 : Int))) ∧ (w32 (l4 + (2 : Int))) < M 30 0) ∧ (0 ≤ (w32 (l4 + (3 : Int))) ∧ (w32 (l4 + (3 : Int))) < M 30 0) ∧ (0 ≤ (w32 (l4 + (4 : Int))) ∧ (w32 (l4 + (4 : Int))) < M 30 0) ∧ (0 ≤ (w32 (l4 + (5 : Int))) ∧ (w32 (l4 + (5 : Int))) < M 30 0) ∧ (0 ≤ (w32 (l4 + (6 : Int))) ∧ (w32 (l4 + (6 : Int))) < M 30 0) ∧ (0 ≤ (w32 (l4 + (7 : Int))) ∧ (w32 (l4 + (7 : Int))) < M 30 0) ∧ Wm d 287 [vR l1, vI (M 31 (Int.toNat (w32 (l4 + (1 : Int))))), vI (M 31 (Int.toNat (w32 (l4 + (2 : Int))))), vI (M 31 (Int.toNat (w32 (l4 + (3 : Int))))), vI (M 31 (Int.toNat (w32 (l4 + (4 : Int))))), vI (M 31 (Int.toNat (w32 (l4 + (5 : Int))))), vI (M 31 (Int.toNat (w32 (l4 + (6 : Int))))), vI (M 31 (Int.toNat (w32 (l4 + (7 : Int))))), vR l3] M K (Bk d 288 2283 2286 287 [vR 31, vR l1, vR l2, vR l3, vI l4, l5, l6, vU] [] Q)) : Wp (d + 1) 288 2237 [vR 31, vR l1, vR l2, vR l3, vI l4, l5, l6, vU] [] M K Q := by
  refine r_aload_n c288_2237 rfl ?_
  refine r_aload_n c288_2238 rfl ?_
  refine r_iload c288_2239 rfl ?_
  refine r_iconst c288_2241 ?_
  refine r_iadd c288_2242 ?_
  obtain ⟨s1, h⟩ := h
  refine r_iax c288_2243 s1 ?_
  refine r_aload_n c288_2244 rfl ?_
  refine r_iload c288_2245 rfl ?_
  refine r_iconst c288_2247 ?_
  refine r_iadd c288_2248 ?_
  obtain ⟨s2, h⟩ := h
  refine r_iax c288_2249 s2 ?_
  refine r_aload_n c288_2250 rfl ?_
  refine r_iload c288_2251 rfl ?_
  refine r_iconst c288_2253 ?_
  refine r_iadd c288_2254 ?_
  obtain ⟨s3, h⟩ := h
  refine r_iax c288_2255 s3 ?_
  refine r_aload_n c288_2256 rfl ?_
  refine r_iload c288_2257 rfl ?_
  refine r_iconst c288_2259 ?_
  refine r_iadd c288_2260 ?_
  obtain ⟨s4, h⟩ := h
  refine r_iax c288_2261 s4 ?_
  refine r_aload_n c288_2262 rfl ?_
  refine r_iload c288_2263 rfl ?_
  refine r_iconst c288_2265 ?_
  refine r_iadd c288_2266 ?_
  obtain ⟨s5, h⟩ := h
  refine r_iax c288_2267 s5 ?_
  refine r_aload_n c288_2268 rfl ?_
  refine r_iload c288_2269 rfl ?_
  refine r_bipush c288_2271 ?_
  refine r_iadd c288_2273 ?_
  obtain ⟨s6, h⟩ := h
  refine r_iax c288_2274 s6 ?_
  refine r_aload_n c288_2275 rfl ?_
  refine r_iload c288_2276 rfl ?_
  refine r_bipush c288_2278 ?_
  refine r_iadd c288_2280 ?_
  obtain ⟨s7, h⟩ := h
  refine r_iax c288_2281 s7 ?_
  refine r_aload_n c288_2282 rfl ?_
  exact r_call c288_2283 rfl rfl (Nat.le_of_ble_eq_true rfl) (okc_s rfl rfl rfl) h
theorem u288_2286 {d : Nat} {l0 : Nat} {l1 : Nat} {l2 : Nat} {l3 : Nat} {l4 : Int} {l5 : PV} {l6 : PV} {t0 : Int} {M : Mem} {K : KK} {Q : RR → Mem → KK → Prop} (hK : K.1 = 923) (hX : FX M)  (h : (0 ≤ (w32 (l4 + (1 : Int))) ∧ (w32 (l4 + (1 : Int))) < M 30 0) ∧ (0 ≤ (w32 (l4 + (2 : Int))) ∧ (w32 (l4 + (2 : Int))) < M 30 0) ∧ (0 ≤ (w32 (l4 + (3 : Int))) ∧ (w32 (l4 + (3 : Int))) < M 30 0) ∧ (0 ≤ (w32 (l4 + (4 : Int))) ∧ (w32 (l4 + (4 : Int))) < M 30 0) ∧ (0 ≤ (w32 (l4 + (5 : Int))) ∧ (w32 (l4 + (5 : Int))) < M 30 0) ∧ (0 ≤ (w32 (l4 + (6 : Int))) ∧ (w32 (l4 + (6 : Int))) < M 30 0) ∧ (0 ≤ (w32 (l4 + (7 : Int))) ∧ (w32 (l4 + (7 : Int))) < M 30 0) ∧ isO 923 l2 12 = true ∧ Wm d 252 [vR l2, vI (M 31 (Int.toNat (w32 (l4 + (1 : Int))))), vI (M 31 (Int.toNat (w32 (l4 + (2 : Int))))), vI (M 31 (Int.toNat (w32 (l4 + (3 : Int))))), vI (M 31 (Int.toNat (w32 (l4 + (4 : Int))))), vI (M 31 (Int.toNat (w32 (l4 + (5 : Int))))), vI (M 31 (Int.toNat (w32 (l4 + (6 : Int))))), vI (M 31 (Int.toNat (w32 (l4 + (7 : Int)))))] M K (Bk d 288 2333 2336 252 [vR 31, vR l1, vR l2, vR l3, vI l4, vI t0, l6, vU] [] Q)) : Wp (d + 1) 288 2286 [vR 31, vR l1, vR l2, vR l3, vI l4, l5, l6, vU] [vI t0] M K Q := by
  refine r_istore c288_2286 (Nat.le_of_ble_eq_true rfl) ?_
  refine r_aload_n c288_2288 rfl ?_
  refine r_aload_n c288_2289 rfl ?_
  refine r_iload c288_2290 rfl ?_
  refine r_iconst c288_2292 ?_
  refine r_iadd c288_2293 ?_
  obtain ⟨s1, h⟩ := h
  refine r_iax c288_2294 s1 ?_
  refine r_aload_n c288_2295 rfl ?_
  refine r_iload c288_2296 rfl ?_
  refine r_iconst c288_2298 ?_
  refine r_iadd c288_2299 ?_
  obtain ⟨s2, h⟩ := h
  refine r_iax c288_2300 s2 ?_
  refine r_aload_n c288_2301 rfl ?_
  refine r_iload c288_2302 rfl ?_
  refine r_iconst c288_2304 ?_
  refine r_iadd c288_2305 ?_
  obtain ⟨s3, h⟩ := h
  refine r_iax c288_2306 s3 ?_
  refine r_aload_n c288_2307 rfl ?_
  refine r_iload c288_2308 rfl ?_
  refine r_iconst c288_2310 ?_
  refine r_iadd c288_2311 ?_
  obtain ⟨s4, h⟩ := h
  refine r_iax c288_2312 s4 ?_
  refine r_aload_n c288_2313 rfl ?_
  refine r_iload c288_2314 rfl ?_
  refine r_iconst c288_2316 ?_
  refine r_iadd c288_2317 ?_
  obtain ⟨s5, h⟩ := h
  refine r_iax c288_2318 s5 ?_
  refine r_aload_n c288_2319 rfl ?_
  refine r_iload c288_2320 rfl ?_
  refine r_bipush c288_2322 ?_
  refine r_iadd c288_2324 ?_
  obtain ⟨s6, h⟩ := h
  refine r_iax c288_2325 s6 ?_
  refine r_aload_n c288_2326 rfl ?_
  refine r_iload c288_2327 rfl ?_
  refine r_bipush c288_2329 ?_
  refine r_iadd c288_2331 ?_
  obtain ⟨s7, h⟩ := h
  refine r_iax c288_2332 s7 ?_
  obtain ⟨o8, h⟩ := h
  exact r_call c288_2333 rfl rfl (Nat.le_of_ble_eq_true rfl) (okc_r rfl rfl (oK hK o8)) h
theorem u288_2336 {d : Nat} {l0 : Nat} {l1 : Nat} {l2 : Nat} {l3 : Nat} {l4 : Int} {l5 : Int} {l6 : PV} {t0 : Int} {M : Mem} {K : KK} {Q : RR → Mem → KK → Prop} (hK : K.1 = 923) (hX : FX M)  (h : isO 923 l2 12 = true ∧ Wm d 151 [vR l2] M K (Bk d 288 2339 2342 151 [vR 31, vR l1, vR l2, vR l3, vI l4, vI l5, vI t0, vU] [] Q)) : Wp (d + 1) 288 2336 [vR 31, vR l1, vR l2, vR l3, vI l4, vI l5, l6, vU] [vI t0] M K Q := by
  refine r_istore c288_2336 (Nat.le_of_ble_eq_true rfl) ?_
  refine r_aload_n c288_2338 rfl ?_
  obtain ⟨o1, h⟩ := h
  exact r_call c288_2339 rfl rfl (Nat.le_of_ble_eq_true rfl) (okc_r rfl rfl (oK hK o1)) h
theorem u288_2342 {d : Nat} {l0 : Nat} {l1 : Nat} {l2 : Nat} {l3 : Nat} {l4 : Int} {l5 : Int} {l6 : Int} {t0 : Int} {M : Mem} {K : KK} {Q : RR → Mem → KK → Prop} (hK : K.1 = 923) (hX : FX M)  (h : (t0 = l5 → (¬ l5 = (0 : Int) → Wp (d + 1) 288 2445 [vR 31, vR l1, vR l2, vR l3, vI l4, vI l5, vI l6, vU] [] M K Q) ∧ (l5 = (0 : Int) → isO 923 l3 22 = true ∧ (0 ≤ (0 : Int) ∧ (0 : Int) < (ln l3 : Int)) ∧ ((jcmp (M l3 0) l6) = (0 : Int) → Wp (d + 1) 288 2445 [vR 31, vR l1, vR l2, vR l3, vI l4, vI l5, vI l6, vU] [] M K Q) ∧ (¬ ((jcmp (M l3 0) l6) = (0 : Int)) → Q (.inl (some (vI (0 : Int)))) M K))) ∧ (¬ (t0 = l5) → Q (.inl (some (vI (0 : Int)))) M K)) : Wp (d + 1) 288 2342 [vR 31, vR l1, vR l2, vR l3, vI l4, vI l5, vI l6, vU] [vI t0] M K Q := by
  refine r_iload c288_2342 rfl ?_
  refine r_icmpP (P := t0 = l5) c288_2344 rfl (fun hc1 => ?_) (fun hc1 => ?_)
  · replace h := h.1 hc1
    refine r_iload c288_2349 rfl ?_
    refine r_ifP (P := ¬ l5 = (0 : Int)) c288_2351 rfl (fun hc2 => ?_) (fun hc2 => ?_)
    · replace h := h.1 hc2
      refine r_goto c288_2366 ?_
      exact h
    · have hc3 := Classical.not_not.mp hc2
      replace h := h.2 hc3
      refine r_aload_n c288_2354 rfl ?_
      refine r_iconst c288_2355 ?_
      obtain ⟨o4, h⟩ := h
      obtain ⟨s5, h⟩ := h
      refine r_lae c288_2356 (oK hK o4) s5 rfl ?_
      refine r_iload c288_2357 rfl ?_
      refine r_i2l c288_2359 ?_
      refine r_lcmp c288_2360 ?_
      refine r_ifP (P := (jcmp (M l3 0) l6) = (0 : Int)) c288_2361 rfl (fun hc6 => ?_) (fun hc6 => ?_)
      · replace h := h.1 hc6
        refine r_goto c288_2366 ?_
        exact h
      · replace h := h.2 hc6
        refine r_iconst c288_2364 ?_
        exact r_iret c288_2365 (by decide) h
  · replace h := h.2 hc1
    refine r_iconst c288_2347 ?_
    exact r_iret c288_2348 (by decide) h
theorem u288_2369 {d : Nat} {l0 : Nat} {l1 : Nat} {l2 : Nat} {l3 : Nat} {l4 : Int} {l5 : PV} {l6 : PV} {M : Mem} {K : KK} {Q : RR → Mem → KK → Prop} (hK : K.1 = 923) (hX : FX M)  (h : isO 923 l1 11 = true ∧ Wm d 132 [vR l1] M K (Bk d 288 2370 2373 132 [vR 31, vR l1, vR l2, vR l3, vI l4, l5, l6, vU] [] Q)) : Wp (d + 1) 288 2369 [vR 31, vR l1, vR l2, vR l3, vI l4, l5, l6, vU] [] M K Q := by
  refine r_aload_n c288_2369 rfl ?_
  obtain ⟨o1, h⟩ := h
  exact r_call c288_2370 rfl rfl (Nat.le_of_ble_eq_true rfl) (okc_r rfl rfl (oK hK o1)) h
theorem u288_2373 {d : Nat} {l0 : Nat} {l1 : Nat} {l2 : Nat} {l3 : Nat} {l4 : Int} {l5 : PV} {l6 : PV} {t0 : Int} {M : Mem} {K : KK} {Q : RR → Mem → KK → Prop} (hK : K.1 = 923) (hX : FX M)  (h : isO 923 l2 12 = true ∧ Wm d 255 [vR l2] M K (Bk d 288 2374 2377 255 [vR 31, vR l1, vR l2, vR l3, vI l4, l5, l6, vU] [vI t0] Q)) : Wp (d + 1) 288 2373 [vR 31, vR l1, vR l2, vR l3, vI l4, l5, l6, vU] [vI t0] M K Q := by
  refine r_aload_n c288_2373 rfl ?_
  obtain ⟨o1, h⟩ := h
  exact r_call c288_2374 rfl rfl (Nat.le_of_ble_eq_true rfl) (okc_r rfl rfl (oK hK o1)) h
theorem u288_2377 {d : Nat} {l0 : Nat} {l1 : Nat} {l2 : Nat} {l3 : Nat} {l4 : Int} {l5 : PV} {l6 : PV} {t0 : Int} {t1 : Int} {M : Mem} {K : KK} {Q : RR → Mem → KK → Prop} (hK : K.1 = 923) (hX : FX M)  (h : (t0 = t1 → Wp (d + 1) 288 2445 [vR 31, vR l1, vR l2, vR l3, vI l4, l5, l6, vU] [] M K Q) ∧ (¬ (t0 = t1) → Q (.inl (some (vI (0 : Int)))) M K)) : Wp (d + 1) 288 2377 [vR 31, vR l1, vR l2, vR l3, vI l4, l5, l6, vU] [vI t1, vI t0] M K Q := by
  refine r_icmpP (P := t0 = t1) c288_2377 rfl (fun hc1 => ?_) (fun hc1 => ?_)
  · replace h := h.1 hc1
    exact h
  · replace h := h.2 hc1
    refine r_iconst c288_2380 ?_
    exact r_iret c288_2381 (by decide) h
theorem u288_2382 {d : Nat} {l0 : Nat} {l1 : Nat} {l2 : Nat} {l3 : Nat} {l4 : Int} {l5 : PV} {l6 : PV} {M : Mem} {K : KK} {Q : RR → Mem → KK → Prop} (hK : K.1 = 923) (hX : FX M)  (h : isO 923 l1 11 = true ∧ Wm d 133 [vR l1] M K (Bk d 288 2383 2386 133 [vR 31, vR l1, vR l2, vR l3, vI l4, l5, l6, vU] [] Q)) : Wp (d + 1) 288 2382 [vR 31, vR l1, vR l2, vR l3, vI l4, l5, l6, vU] [] M K Q := by
  refine r_aload_n c288_2382 rfl ?_
  obtain ⟨o1, h⟩ := h
  exact r_call c288_2383 rfl rfl (Nat.le_of_ble_eq_true rfl) (okc_r rfl rfl (oK hK o1)) h
theorem u288_2386 {d : Nat} {l0 : Nat} {l1 : Nat} {l2 : Nat} {l3 : Nat} {l4 : Int} {l5 : PV} {l6 : PV} {t0 : Int} {M : Mem} {K : KK} {Q : RR → Mem → KK → Prop} (hK : K.1 = 923) (hX : FX M)  (h : isO 923 l2 12 = true ∧ Wm d 256 [vR l2] M K (Bk d 288 2387 2390 256 [vR 31, vR l1, vR l2, vR l3, vI l4, l5, l6, vU] [vI t0] Q)) : Wp (d + 1) 288 2386 [vR 31, vR l1, vR l2, vR l3, vI l4, l5, l6, vU] [vI t0] M K Q := by
  refine r_aload_n c288_2386 rfl ?_
  obtain ⟨o1, h⟩ := h
  exact r_call c288_2387 rfl rfl (Nat.le_of_ble_eq_true rfl) (okc_r rfl rfl (oK hK o1)) h
theorem u288_2390 {d : Nat} {l0 : Nat} {l1 : Nat} {l2 : Nat} {l3 : Nat} {l4 : Int} {l5 : PV} {l6 : PV} {t0 : Int} {t1 : Int} {M : Mem} {K : KK} {Q : RR → Mem → KK → Prop} (hK : K.1 = 923) (hX : FX M)  (h : (t0 = t1 → Wp (d + 1) 288 2445 [vR 31, vR l1, vR l2, vR l3, vI l4, l5, l6, vU] [] M K Q) ∧ (¬ (t0 = t1) → Q (.inl (some (vI (0 : Int)))) M K)) : Wp (d + 1) 288 2390 [vR 31, vR l1, vR l2, vR l3, vI l4, l5, l6, vU] [vI t1, vI t0] M K Q := by
  refine r_icmpP (P := t0 = t1) c288_2390 rfl (fun hc1 => ?_) (fun hc1 => ?_)
  · replace h := h.1 hc1
    exact h
  · replace h := h.2 hc1
    refine r_iconst c288_2393 ?_
    exact r_iret c288_2394 (by decide) h
theorem u288_2395 {d : Nat} {l0 : Nat} {l1 : Nat} {l2 : Nat} {l3 : Nat} {l4 : Int} {l5 : PV} {l6 : PV} {M : Mem} {K : KK} {Q : RR → Mem → KK → Prop} (hK : K.1 = 923) (hX : FX M)  (h : (0 ≤ (w32 (l4 + (1 : Int))) ∧ (w32 (l4 + (1 : Int))) < M 30 0) ∧ isO 923 l1 11 = true ∧ Wm d 134 [vR l1, vI (M 31 (Int.toNat (w32 (l4 + (1 : Int)))))] M K (Bk d 288 2402 2405 134 [vR 31, vR l1, vR l2, vR l3, vI l4, l5, l6, vU] [] Q)) : Wp (d + 1) 288 2395 [vR 31, vR l1, vR l2, vR l3, vI l4, l5, l6, vU] [] M K Q := by
  refine r_aload_n c288_2395 rfl ?_
  refine r_aload_n c288_2396 rfl ?_
  refine r_iload c288_2397 rfl ?_
  refine r_iconst c288_2399 ?_
  refine r_iadd c288_2400 ?_
  obtain ⟨s1, h⟩ := h
  refine r_iax c288_2401 s1 ?_
  obtain ⟨o2, h⟩ := h
  exact r_call c288_2402 rfl rfl (Nat.le_of_ble_eq_true rfl) (okc_r rfl rfl (oK hK o2)) h
theorem u288_2405 {d : Nat} {l0 : Nat} {l1 : Nat} {l2 : Nat} {l3 : Nat} {l4 : Int} {l5 : PV} {l6 : PV} {t0 : Int} {M : Mem} {K : KK} {Q : RR → Mem → KK → Prop} (hK : K.1 = 923) (hX : FX M)  (h : (0 ≤ (w32 (l4 + (1 : Int))) ∧ (w32 (l4 + (1 : Int))) < M 30 0) ∧ isO 923 l2 12 = true ∧ Wm d 257 [vR l2, vI (M 31 (Int.toNat (w32 (l4 + (1 : Int)))))] M K (Bk d 288 2412 2415 257 [vR 31, vR l1, vR l2, vR l3, vI l4, l5, l6, vU] [vI t0] Q)) : Wp (d + 1) 288 2405 [vR 31, vR l1, vR l2, vR l3, vI l4, l5, l6, vU] [vI t0] M K Q := by
  refine r_aload_n c288_2405 rfl ?_
  refine r_aload_n c288_2406 rfl ?_
  refine r_iload c288_2407 rfl ?_
  refine r_iconst c288_2409 ?_
  refine r_iadd c288_2410 ?_
  obtain ⟨s1, h⟩ := h
  refine r_iax c288_2411 s1 ?_
  obtain ⟨o2, h⟩ := h
  exact r_call c288_2412 rfl rfl (Nat.le_of_ble_eq_true rfl) (okc_r rfl rfl (oK hK o2)) h
theorem u288_2415 {d : Nat} {l0 : Nat} {l1 : Nat} {l2 : Nat} {l3 : Nat} {l4 : Int} {l5 : PV} {l6 : PV} {t0 : Int} {t1 : Int} {M : Mem} {K : KK} {Q : RR → Mem → KK → Prop} (hK : K.1 = 923) (hX : FX M)  (h : (t0 = t1 → Wp (d + 1) 288 2445 [vR 31, vR l1, vR l2, vR l3, vI l4, l5, l6, vU] [] M K Q) ∧ (¬ (t0 = t1) → Q (.inl (some (vI (0 : Int)))) M K)) : Wp (d + 1) 288 2415 [vR 31, vR l1, vR l2, vR l3, vI l4, l5, l6, vU] [vI t1, vI t0] M K Q := by
  refine r_icmpP (P := t0 = t1) c288_2415 rfl (fun hc1 => ?_) (fun hc1 => ?_)
  · replace h := h.1 hc1
    exact h
  · replace h := h.2 hc1
    refine r_iconst c288_2418 ?_
    exact r_iret c288_2419 (by decide) h
theorem u288_2420 {d : Nat} {l0 : Nat} {l1 : Nat} {l2 : Nat} {l3 : Nat} {l4 : Int} {l5 : PV} {l6 : PV} {M : Mem} {K : KK} {Q : RR → Mem → KK → Prop} (hK : K.1 = 923) (hX : FX M)  (h : (0 ≤ (w32 (l4 + (1 : Int))) ∧ (w32 (l4 + (1 : Int))) < M 30 0) ∧ isO 923 l1 11 = true ∧ Wm d 135 [vR l1, vI (M 31 (Int.toNat (w32 (l4 + (1 : Int)))))] M K (Bk d 288 2427 2430 135 [vR 31, vR l1, vR l2, vR l3, vI l4, l5, l6, vU] [] Q)) : Wp (d + 1) 288 2420 [vR 31, vR l1, vR l2, vR l3, vI l4, l5, l6, vU] [] M K Q := by
  refine r_aload_n c288_2420 rfl ?_
  refine r_aload_n c288_2421 rfl ?_
  refine r_iload c288_2422 rfl ?_
  refine r_iconst c288_2424 ?_
  refine r_iadd c288_2425 ?_
  obtain ⟨s1, h⟩ := h
  refine r_iax c288_2426 s1 ?_
  obtain ⟨o2, h⟩ := h
  exact r_call c288_2427 rfl rfl (Nat.le_of_ble_eq_true rfl) (okc_r rfl rfl (oK hK o2)) h
theorem u288_2430 {d : Nat} {l0 : Nat} {l1 : Nat} {l2 : Nat} {l3 : Nat} {l4 : Int} {l5 : PV} {l6 : PV} {t0 : Int} {M : Mem} {K : KK} {Q : RR → Mem → KK → Prop} (hK : K.1 = 923) (hX : FX M)  (h : (0 ≤ (w32 (l4 + (1 : Int))) ∧ (w32 (l4 + (1 : Int))) < M 30 0) ∧ isO 923 l2 12 = true ∧ Wm d 258 [vR l2, vI (M 31 (Int.toNat (w32 (l4 + (1 : Int)))))] M K (Bk d 288 2437 2440 258 [vR 31, vR l1, vR l2, vR l3, vI l4, l5, l6, vU] [vI t0] Q)) : Wp (d + 1) 288 2430 [vR 31, vR l1, vR l2, vR l3, vI l4, l5, l6, vU] [vI t0] M K Q := by
  refine r_aload_n c288_2430 rfl ?_
  refine r_aload_n c288_2431 rfl ?_
  refine r_iload c288_2432 rfl ?_
  refine r_iconst c288_2434 ?_
  refine r_iadd c288_2435 ?_
  obtain ⟨s1, h⟩ := h
  refine r_iax c288_2436 s1 ?_
  obtain ⟨o2, h⟩ := h
  exact r_call c288_2437 rfl rfl (Nat.le_of_ble_eq_true rfl) (okc_r rfl rfl (oK hK o2)) h
theorem u288_2440 {d : Nat} {l0 : Nat} {l1 : Nat} {l2 : Nat} {l3 : Nat} {l4 : Int} {l5 : PV} {l6 : PV} {t0 : Int} {t1 : Int} {M : Mem} {K : KK} {Q : RR → Mem → KK → Prop} (hK : K.1 = 923) (hX : FX M)  (h : (t0 = t1 → Wp (d + 1) 288 2445 [vR 31, vR l1, vR l2, vR l3, vI l4, l5, l6, vU] [] M K Q) ∧ (¬ (t0 = t1) → Q (.inl (some (vI (0 : Int)))) M K)) : Wp (d + 1) 288 2440 [vR 31, vR l1, vR l2, vR l3, vI l4, l5, l6, vU] [vI t1, vI t0] M K Q := by
  refine r_icmpP (P := t0 = t1) c288_2440 rfl (fun hc1 => ?_) (fun hc1 => ?_)
  · replace h := h.1 hc1
    exact h
  · replace h := h.2 hc1
    refine r_iconst c288_2443 ?_
    exact r_iret c288_2444 (by decide) h
theorem u288_2445 {d : Nat} {l0 : Nat} {l1 : Nat} {l2 : Nat} {l3 : Nat} {l4 : Int} {l5 : PV} {l6 : PV} {M : Mem} {K : KK} {Q : RR → Mem → KK → Prop} (hK : K.1 = 923) (hX : FX M)  (h : Wp (d + 1) 288 23 [vR 31, vR l1, vR l2, vR l3, vI (w32 (l4 + 9)), l5, l6, vU] [] M K Q) : Wp (d + 1) 288 2445 [vR 31, vR l1, vR l2, vR l3, vI l4, l5, l6, vU] [] M K Q := by
  refine r_iinc c288_2445 rfl ?_
  refine r_goto c288_2448 ?_
  exact h
/-! the loop of the law: its tree -/
/-! behind a wrapper: its three ends -/
def Nx2 (d : Nat) (Q : RR → Mem → KK → Prop) (M : Mem) (K : KK) (i : Nat) : Prop := ∀ (M3 : Mem) (l5 l6 : PV), FX M3 → RZ M3 ∧ ScR M M3 → Wp (d + 101) 288 2445 [vR 31, vR 32, vR 440, vR 922, vI (i : Int), l5, l6, vU] [] M3 K Q
section LQ
variable {d i : Nat} {M M' M1 M2 M3 : Mem} {K : KK} {Q : RR → Mem → KK → Prop} {nB : Nat} {B : BY} {fp : Int} {c : Mem} {L : LC} {s : Mem} {H : List Mem} {I : List IMG} {Y : LC} {rf ms wr : Int} {D m pc : Nat} {ls st : List PV}
theorem gn (hK : K.1 = 923) (hX : FX M) (hI : IV nB B c s H I Y) (hc : CS M nB B fp c L s H I Y rf ms wr) (hm : MS M nB B fp c L s H I Y rf ms wr) (nx : Nx d Q M K i) (k : ∀ M2 K2, K2.1 = 923 → FX M2 → ScR M M2 → MS M2 nB B fp c L s H I Y rf ms wr → Nx2 d Q M K2 i → (∀ M3 cd, BadM cd 0 M2 M3 → RZ M3 ∧ ScR M M3) → Wp D m pc ls st M2 K2 Q) : Wp D m pc ls st (inc M 18) (K9 K) Q :=
  k (inc M 18) (K9 K) hK hX.i18 inc_sc (hm.hi inc_hi hI) (fun M3 l5 l6 x3 r => nx.t hK x3 r l5 l6) (fun M3 cd b => RZ.n hI hc hm b)
theorem gb (hK : K.1 = 923) (hX : FX M) (hI : IV nB B c s H I Y) (hc : CS M nB B fp c L s H I Y rf ms wr) (hm : MS M nB B fp c L s H I Y rf ms wr) (nx : Nx d Q M K i) (k : ∀ M2 K2, K2.1 = 923 → FX M2 → ScR M M2 → MS M2 nB B fp c L s H I Y rf ms wr → Nx2 d Q M K2 i → (∀ M3 cd, BadM cd 1 M2 M3 → RZ M3 ∧ ScR M M3) → Wp D m pc ls st M2 K2 Q) : Wp D m pc ls st (inc M 19) (K9 K) Q :=
  k (inc M 19) (K9 K) hK hX.i19 inc_sc (hm.hi inc_hi hI) (fun M3 l5 l6 x3 r => nx.t hK x3 r l5 l6) (fun M3 cd b => RZ.b hI hc hm b)
theorem gk {v : Int} (hK : K.1 = 923) (x1 : FX M1) (f1 : FrQc M M1) (hI : IV nB B c s H I Y) (hc : CS M nB B fp c L s H I Y rf ms wr) (hm : MS M nB B fp c L s H I Y rf ms wr) (nx : Nx d Q M K i) (k : ∀ M2 K2, K2.1 = 923 → FX M2 → ScR M M2 → MS M2 nB B fp c L s H I Y rf ms wr → Nx2 d Q M K2 i → (∀ M3, FrQm M2 M3 → (RZ M3 ∧ ScR M M3) ∧ M3 922 0 = v) → Wp D m pc ls st M2 K2 Q) : Wp D m pc ls st (mset M1 922 (Int.toNat 0) v) K Q :=
  k (mset M1 922 0 v) K hK x1.out (out_sc f1.hi) ((hm.hi f1.hi hI).out hI) (fun M3 l5 l6 x3 r => nx.k hK x3 r l5 l6) (fun M3 f3 => ⟨RZ.k hI hc hm f1 f3, (f3.lo _ _ (Or.inr (by decide))).trans ms_eq⟩)
end LQ
