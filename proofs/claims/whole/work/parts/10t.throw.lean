/-! the words of the two throws -/
def rxN : ByteArray := prog_30_method_4_code
theorem rxN_0 : decode rxN 0 = .ok (.aload_n 0, 1) := by decide +kernel
theorem rxN_1 : decode rxN 1 = .ok (.aload_n 1, 1) := by decide +kernel
theorem rxN_2 : decode rxN 2 = .ok (.invokespecial 13, 3) := by decide +kernel
theorem rxN_5 : decode rxN 5 = .ok (.return_, 1) := by decide +kernel
theorem tw_z0 : ((vx_atS RX11 371 "java/lang/IllegalArgumentException" ["java/lang/RuntimeException", "java/lang/Exception"]).filter goodWord).all (fun w => decide (w ∈ lw_tbl)) = true := by decide +kernel
theorem tw_a0 : ∀ w ∈ (vx_atS RX11 371 "java/lang/IllegalArgumentException" ["java/lang/RuntimeException", "java/lang/Exception"]).filter goodWord, w ∈ lw_tbl := fun w hw => of_decide_eq_true (List.all_eq_true.mp tw_z0 w hw)
theorem tw_z1 : ((tx_at RX11 378 "java/util/NoSuchElementException" 13 rxN ["java/lang/RuntimeException", "java/lang/Exception"]).filter goodWord).all (fun w => decide (w ∈ lw_tbl)) = true := by decide +kernel
theorem tw_a1 : ∀ w ∈ (tx_at RX11 378 "java/util/NoSuchElementException" 13 rxN ["java/lang/RuntimeException", "java/lang/Exception"]).filter goodWord, w ∈ lw_tbl := fun w hw => of_decide_eq_true (List.all_eq_true.mp tw_z1 w hw)
theorem tw_b0 : ∀ w ∈ (vx_atS RX11 371 "java/lang/IllegalArgumentException" ["java/lang/RuntimeException", "java/lang/Exception"]).filter (fun w => !goodWord w), w ∈ ([.castable "java/lang/IllegalArgumentException" "java/lang/IllegalArgumentException", .declares (Bundle.initS "java/lang/RuntimeException"), .declares (Bundle.initS "java/lang/Exception"), .declares (Bundle.initS Bundle.tN)] : List Cond) := by decide +kernel
theorem tw_b1 : ∀ w ∈ (tx_at RX11 378 "java/util/NoSuchElementException" 13 rxN ["java/lang/RuntimeException", "java/lang/Exception"]).filter (fun w => !goodWord w), w ∈ ([.castable "java/util/NoSuchElementException" "java/util/NoSuchElementException", .declares (Bundle.initS "java/lang/RuntimeException"), .declares (Bundle.initS "java/lang/Exception"), .declares (Bundle.initS Bundle.tN)] : List Cond) := by decide +kernel
theorem tw_g0 : ∀ w ∈ Cond.classLink RX11 367 "java/lang/IllegalArgumentException" :: Cond.initialized "java/lang/IllegalArgumentException" :: (vx_atS RX11 371 "java/lang/IllegalArgumentException" ["java/lang/RuntimeException", "java/lang/Exception"]), vx_ot w = true := by decide +kernel
theorem tw_g1 : ∀ w ∈ Cond.classLink RX11 374 "java/util/NoSuchElementException" :: Cond.initialized "java/util/NoSuchElementException" :: (tx_at RX11 378 "java/util/NoSuchElementException" 13 rxN ["java/lang/RuntimeException", "java/lang/Exception"]), vx_ot w = true := by decide +kernel
def tw_c : List Cond := [.classLink RX11 367 "java/lang/IllegalArgumentException", .initialized "java/lang/IllegalArgumentException", .classLink RX11 374 "java/util/NoSuchElementException", .initialized "java/util/NoSuchElementException"]
theorem tw_c_in : ∀ w ∈ tw_c, w ∈ lw_tbl := by decide +kernel
def tw : List Cond := tw_c ++ ((vx_atS RX11 371 "java/lang/IllegalArgumentException" ["java/lang/RuntimeException", "java/lang/Exception"]).filter goodWord ++ (tx_at RX11 378 "java/util/NoSuchElementException" 13 rxN ["java/lang/RuntimeException", "java/lang/Exception"]).filter goodWord)
theorem tw_ok : GoodIn lw_tbl tw := by
  intro w hw
  have hg : w ∈ lw_tbl ∧ goodWord w = true := by
    rcases List.mem_append.mp hw with h | h
    · have h9 : tw_c.all goodWord = true := by decide +kernel
      exact ⟨tw_c_in w h, List.all_eq_true.mp h9 w h⟩
    · rcases List.mem_append.mp h with h | h
      · exact ⟨tw_a0 w h, (List.mem_filter.mp h).2⟩
      · exact ⟨tw_a1 w h, (List.mem_filter.mp h).2⟩
  exact ⟨hg.1, good_of_word hg.2⟩
theorem dt0_0 : decode (byt 136) 14 = .ok (.new 367, 3) := by decide +kernel
theorem dt0_3 : decode (byt 136) (14 + 3) = .ok (.dup, 1) := by decide +kernel
theorem dt0_4 : decode (byt 136) (14 + 4) = .ok (.ldc_w 369, 3) := by decide +kernel
theorem dt0_7 : decode (byt 136) (14 + 7) = .ok (.invokespecial 371, 3) := by decide +kernel
theorem dt0_10 : decode (byt 136) (14 + 10) = .ok (.athrow, 1) := by decide +kernel
theorem dt0_at {pc i n x y : Nat} {z : Int} (h : cd 136 pc = (.new i, n, x, y, z)) (hx : 900 ≤ x) : pc = 14 ∧ x = 900 := by
  have h1 : (mtab.getD 136 []).all (fun e => match e.2.1 with
    | .new i => Nat.beq e.1 14 && Nat.beq e.2.2.2.1 900
    | _ => true) = true := by decide +kernel
  have h2 := List.all_eq_true.mp h1 _ (cd_at h (fun h => by cases h)).2
  simp only [Bool.and_eq_true] at h2
  exact ⟨Nat.eq_of_beq_eq_true h2.1, Nat.eq_of_beq_eq_true h2.2⟩
theorem dt1_0 : decode (byt 137) 14 = .ok (.new 374, 3) := by decide +kernel
theorem dt1_3 : decode (byt 137) (14 + 3) = .ok (.dup, 1) := by decide +kernel
theorem dt1_4 : decode (byt 137) (14 + 4) = .ok (.ldc_w 376, 3) := by decide +kernel
theorem dt1_7 : decode (byt 137) (14 + 7) = .ok (.invokespecial 378, 3) := by decide +kernel
theorem dt1_10 : decode (byt 137) (14 + 10) = .ok (.athrow, 1) := by decide +kernel
theorem dt1_at {pc i n x y : Nat} {z : Int} (h : cd 137 pc = (.new i, n, x, y, z)) (hx : 900 ≤ x) : pc = 14 ∧ x = 901 := by
  have h1 : (mtab.getD 137 []).all (fun e => match e.2.1 with
    | .new i => Nat.beq e.1 14 && Nat.beq e.2.2.2.1 901
    | _ => true) = true := by decide +kernel
  have h2 := List.all_eq_true.mp h1 _ (cd_at h (fun h => by cases h)).2
  simp only [Bool.and_eq_true] at h2
  exact ⟨Nat.eq_of_beq_eq_true h2.1, Nat.eq_of_beq_eq_true h2.2⟩
