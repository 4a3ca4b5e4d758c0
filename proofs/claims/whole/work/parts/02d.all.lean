/-! what the checks say, of every method at once -/
def cnL : List String := [RX0, RX1, RX2, RX3, RX4, RX5, RX6, RX7, RX8, RX9, RX10, RX11, RX12, RL, RJ6]
theorem cnL_ok : ∀ o ∈ cnL, o ≠ "java/lang/invoke/MethodHandle" ∧ o ≠ "java/lang/invoke/VarHandle" ∧ plainName o = true := by decide +kernel
def isSL (c : CI) : Bool := match c.1 with
  | .ldc _ => !(Nat.beq c.2.2.1 0)
  | _ => false
def ldI (c : CI) : Nat := match c.1 with
  | .ldc i => i
  | _ => 0
def FLp (m : Nat) : Prop := (mtab.getD m []).all (chkE m) = true ∧ (∀ w ∈ ((mtab.getD m []).filter (fun e => Nat.beq (lkk m e.2) 1)).map (fun e => lkW m e.2), w ∈ bw) ∧ (∀ w ∈ ((mtab.getD m []).filter (fun e => Nat.beq (lkk m e.2) 2)).map (fun e => lkW m e.2), w ∈ nw) ∧ (m ≠ 288 → ∀ w ∈ cdW m :: mwL m, w ∈ bw) ∧ (yM m).cls = own m ∧ own m ∈ cnL ∧ (Nat.blt (clT.getD m 99) 13 = true → own m = (clM (clT.getD m 99)).1) ∧ ((mtab.getD m []).filter (fun e => isSL e.2)).map (fun e => (own m, ldI e.2)) = ((mtab.getD m []).filter (fun e => isSL e.2)).map (fun e => ((ssT.getD (e.2.2.2.2.1 - 2) ("", 0, "")).1, (ssT.getD (e.2.2.2.2.1 - 2) ("", 0, "")).2.1))
theorem stepP {P : Nat → Prop} {n : Nat} (h : ∀ m, m < n → P m) (hn : P n) : ∀ m, m < n + 1 → P m := fun m hm => by
  rcases Nat.lt_succ_iff_lt_or_eq.mp hm with h1 | h1
  · exact h m h1
  · rw [h1]; exact hn
def NPp (m : Nat) : Prop := (parseMethodDescriptor (yM m).desc).map (fun d => d.parameters.length) = some (npT.getD m 0) ∧ (inT.getD m false = true → (yM m).name = "<init>" ∧ rtM m = none)
theorem fl_0 : ∀ m, m < 0 → FLp m := fun m h => absurd h (Nat.not_lt_zero m)
theorem np_0 : ∀ m, m < 0 → NPp m := fun m h => absurd h (Nat.not_lt_zero m)
set_option maxRecDepth 100000 in
theorem fl_1 : ∀ m, m < 1 → FLp m := stepP fl_0 ⟨ck_0, pl_0, ns_0, fun _ => mw_0, rfl, List.mem_of_getElem? (i := 0) rfl, fun _ => rfl, rfl⟩
set_option maxRecDepth 100000 in
theorem fl_2 : ∀ m, m < 2 → FLp m := stepP fl_1 ⟨ck_1, pl_1, ns_1, fun _ => mw_1, rfl, List.mem_of_getElem? (i := 0) rfl, fun _ => rfl, rfl⟩
set_option maxRecDepth 100000 in
theorem fl_3 : ∀ m, m < 3 → FLp m := stepP fl_2 ⟨ck_2, pl_2, ns_2, fun _ => mw_2, rfl, List.mem_of_getElem? (i := 0) rfl, fun _ => rfl, rfl⟩
set_option maxRecDepth 100000 in
theorem fl_4 : ∀ m, m < 4 → FLp m := stepP fl_3 ⟨ck_3, pl_3, ns_3, fun _ => mw_3, rfl, List.mem_of_getElem? (i := 0) rfl, fun _ => rfl, rfl⟩
set_option maxRecDepth 100000 in
theorem fl_5 : ∀ m, m < 5 → FLp m := stepP fl_4 ⟨ck_4, pl_4, ns_4, fun _ => mw_4, rfl, List.mem_of_getElem? (i := 0) rfl, fun _ => rfl, rfl⟩
set_option maxRecDepth 100000 in
theorem fl_6 : ∀ m, m < 6 → FLp m := stepP fl_5 ⟨ck_5, pl_5, ns_5, fun _ => mw_5, rfl, List.mem_of_getElem? (i := 0) rfl, fun _ => rfl, rfl⟩
set_option maxRecDepth 100000 in
theorem fl_7 : ∀ m, m < 7 → FLp m := stepP fl_6 ⟨ck_6, pl_6, ns_6, fun _ => mw_6, rfl, List.mem_of_getElem? (i := 0) rfl, fun _ => rfl, rfl⟩
set_option maxRecDepth 100000 in
theorem fl_8 : ∀ m, m < 8 → FLp m := stepP fl_7 ⟨ck_7, pl_7, ns_7, fun _ => mw_7, rfl, List.mem_of_getElem? (i := 0) rfl, fun _ => rfl, rfl⟩
set_option maxRecDepth 100000 in
theorem fl_9 : ∀ m, m < 9 → FLp m := stepP fl_8 ⟨ck_8, pl_8, ns_8, fun _ => mw_8, rfl, List.mem_of_getElem? (i := 0) rfl, fun _ => rfl, rfl⟩
set_option maxRecDepth 100000 in
theorem fl_10 : ∀ m, m < 10 → FLp m := stepP fl_9 ⟨ck_9, pl_9, ns_9, fun _ => mw_9, rfl, List.mem_of_getElem? (i := 0) rfl, fun _ => rfl, rfl⟩
set_option maxRecDepth 100000 in
theorem fl_11 : ∀ m, m < 11 → FLp m := stepP fl_10 ⟨ck_10, pl_10, ns_10, fun _ => mw_10, rfl, List.mem_of_getElem? (i := 0) rfl, fun _ => rfl, rfl⟩
set_option maxRecDepth 100000 in
theorem fl_12 : ∀ m, m < 12 → FLp m := stepP fl_11 ⟨ck_11, pl_11, ns_11, fun _ => mw_11, rfl, List.mem_of_getElem? (i := 0) rfl, fun _ => rfl, rfl⟩
set_option maxRecDepth 100000 in
theorem fl_13 : ∀ m, m < 13 → FLp m := stepP fl_12 ⟨ck_12, pl_12, ns_12, fun _ => mw_12, rfl, List.mem_of_getElem? (i := 0) rfl, fun _ => rfl, rfl⟩
set_option maxRecDepth 100000 in
theorem fl_14 : ∀ m, m < 14 → FLp m := stepP fl_13 ⟨ck_13, pl_13, ns_13, fun _ => mw_13, rfl, List.mem_of_getElem? (i := 1) rfl, fun _ => rfl, rfl⟩
set_option maxRecDepth 100000 in
theorem fl_15 : ∀ m, m < 15 → FLp m := stepP fl_14 ⟨ck_14, pl_14, ns_14, fun _ => mw_14, rfl, List.mem_of_getElem? (i := 1) rfl, fun _ => rfl, rfl⟩
set_option maxRecDepth 100000 in
theorem fl_16 : ∀ m, m < 16 → FLp m := stepP fl_15 ⟨ck_15, pl_15, ns_15, fun _ => mw_15, rfl, List.mem_of_getElem? (i := 1) rfl, fun _ => rfl, rfl⟩
set_option maxRecDepth 100000 in
theorem fl_17 : ∀ m, m < 17 → FLp m := stepP fl_16 ⟨ck_16, pl_16, ns_16, fun _ => mw_16, rfl, List.mem_of_getElem? (i := 1) rfl, fun _ => rfl, rfl⟩
set_option maxRecDepth 100000 in
theorem fl_18 : ∀ m, m < 18 → FLp m := stepP fl_17 ⟨ck_17, pl_17, ns_17, fun _ => mw_17, rfl, List.mem_of_getElem? (i := 2) rfl, fun _ => rfl, rfl⟩
set_option maxRecDepth 100000 in
theorem fl_19 : ∀ m, m < 19 → FLp m := stepP fl_18 ⟨ck_18, pl_18, ns_18, fun _ => mw_18, rfl, List.mem_of_getElem? (i := 2) rfl, fun _ => rfl, rfl⟩
set_option maxRecDepth 100000 in
theorem fl_20 : ∀ m, m < 20 → FLp m := stepP fl_19 ⟨ck_19, pl_19, ns_19, fun _ => mw_19, rfl, List.mem_of_getElem? (i := 2) rfl, fun _ => rfl, rfl⟩
set_option maxRecDepth 100000 in
theorem fl_21 : ∀ m, m < 21 → FLp m := stepP fl_20 ⟨ck_20, pl_20, ns_20, fun _ => mw_20, rfl, List.mem_of_getElem? (i := 2) rfl, fun _ => rfl, rfl⟩
set_option maxRecDepth 100000 in
theorem fl_22 : ∀ m, m < 22 → FLp m := stepP fl_21 ⟨ck_21, pl_21, ns_21, fun _ => mw_21, rfl, List.mem_of_getElem? (i := 2) rfl, fun _ => rfl, rfl⟩
set_option maxRecDepth 100000 in
theorem fl_23 : ∀ m, m < 23 → FLp m := stepP fl_22 ⟨ck_22, pl_22, ns_22, fun _ => mw_22, rfl, List.mem_of_getElem? (i := 2) rfl, fun _ => rfl, rfl⟩
set_option maxRecDepth 100000 in
theorem fl_24 : ∀ m, m < 24 → FLp m := stepP fl_23 ⟨ck_23, pl_23, ns_23, fun _ => mw_23, rfl, List.mem_of_getElem? (i := 2) rfl, fun _ => rfl, rfl⟩
set_option maxRecDepth 100000 in
theorem fl_25 : ∀ m, m < 25 → FLp m := stepP fl_24 ⟨ck_24, pl_24, ns_24, fun _ => mw_24, rfl, List.mem_of_getElem? (i := 2) rfl, fun _ => rfl, rfl⟩
set_option maxRecDepth 100000 in
theorem fl_26 : ∀ m, m < 26 → FLp m := stepP fl_25 ⟨ck_25, pl_25, ns_25, fun _ => mw_25, rfl, List.mem_of_getElem? (i := 2) rfl, fun _ => rfl, rfl⟩
set_option maxRecDepth 100000 in
theorem fl_27 : ∀ m, m < 27 → FLp m := stepP fl_26 ⟨ck_26, pl_26, ns_26, fun _ => mw_26, rfl, List.mem_of_getElem? (i := 2) rfl, fun _ => rfl, rfl⟩
set_option maxRecDepth 100000 in
theorem fl_28 : ∀ m, m < 28 → FLp m := stepP fl_27 ⟨ck_27, pl_27, ns_27, fun _ => mw_27, rfl, List.mem_of_getElem? (i := 2) rfl, fun _ => rfl, rfl⟩
set_option maxRecDepth 100000 in
theorem fl_29 : ∀ m, m < 29 → FLp m := stepP fl_28 ⟨ck_28, pl_28, ns_28, fun _ => mw_28, rfl, List.mem_of_getElem? (i := 3) rfl, fun _ => rfl, rfl⟩
set_option maxRecDepth 100000 in
theorem fl_30 : ∀ m, m < 30 → FLp m := stepP fl_29 ⟨ck_29, pl_29, ns_29, fun _ => mw_29, rfl, List.mem_of_getElem? (i := 3) rfl, fun _ => rfl, rfl⟩
set_option maxRecDepth 100000 in
theorem fl_31 : ∀ m, m < 31 → FLp m := stepP fl_30 ⟨ck_30, pl_30, ns_30, fun _ => mw_30, rfl, List.mem_of_getElem? (i := 3) rfl, fun _ => rfl, rfl⟩
set_option maxRecDepth 100000 in
theorem fl_32 : ∀ m, m < 32 → FLp m := stepP fl_31 ⟨ck_31, pl_31, ns_31, fun _ => mw_31, rfl, List.mem_of_getElem? (i := 3) rfl, fun _ => rfl, rfl⟩
set_option maxRecDepth 100000 in
theorem fl_33 : ∀ m, m < 33 → FLp m := stepP fl_32 ⟨ck_32, pl_32, ns_32, fun _ => mw_32, rfl, List.mem_of_getElem? (i := 3) rfl, fun _ => rfl, rfl⟩
set_option maxRecDepth 100000 in
theorem fl_34 : ∀ m, m < 34 → FLp m := stepP fl_33 ⟨ck_33, pl_33, ns_33, fun _ => mw_33, rfl, List.mem_of_getElem? (i := 3) rfl, fun _ => rfl, rfl⟩
set_option maxRecDepth 100000 in
theorem fl_35 : ∀ m, m < 35 → FLp m := stepP fl_34 ⟨ck_34, pl_34, ns_34, fun _ => mw_34, rfl, List.mem_of_getElem? (i := 3) rfl, fun _ => rfl, rfl⟩
set_option maxRecDepth 100000 in
theorem fl_36 : ∀ m, m < 36 → FLp m := stepP fl_35 ⟨ck_35, pl_35, ns_35, fun _ => mw_35, rfl, List.mem_of_getElem? (i := 3) rfl, fun _ => rfl, rfl⟩
set_option maxRecDepth 100000 in
theorem fl_37 : ∀ m, m < 37 → FLp m := stepP fl_36 ⟨ck_36, pl_36, ns_36, fun _ => mw_36, rfl, List.mem_of_getElem? (i := 3) rfl, fun _ => rfl, rfl⟩
set_option maxRecDepth 100000 in
theorem fl_38 : ∀ m, m < 38 → FLp m := stepP fl_37 ⟨ck_37, pl_37, ns_37, fun _ => mw_37, rfl, List.mem_of_getElem? (i := 3) rfl, fun _ => rfl, rfl⟩
set_option maxRecDepth 100000 in
theorem fl_39 : ∀ m, m < 39 → FLp m := stepP fl_38 ⟨ck_38, pl_38, ns_38, fun _ => mw_38, rfl, List.mem_of_getElem? (i := 3) rfl, fun _ => rfl, rfl⟩
set_option maxRecDepth 100000 in
theorem fl_40 : ∀ m, m < 40 → FLp m := stepP fl_39 ⟨ck_39, pl_39, ns_39, fun _ => mw_39, rfl, List.mem_of_getElem? (i := 3) rfl, fun _ => rfl, rfl⟩
set_option maxRecDepth 100000 in
theorem fl_41 : ∀ m, m < 41 → FLp m := stepP fl_40 ⟨ck_40, pl_40, ns_40, fun _ => mw_40, rfl, List.mem_of_getElem? (i := 3) rfl, fun _ => rfl, rfl⟩
set_option maxRecDepth 100000 in
theorem fl_42 : ∀ m, m < 42 → FLp m := stepP fl_41 ⟨ck_41, pl_41, ns_41, fun _ => mw_41, rfl, List.mem_of_getElem? (i := 3) rfl, fun _ => rfl, rfl⟩
set_option maxRecDepth 100000 in
theorem fl_43 : ∀ m, m < 43 → FLp m := stepP fl_42 ⟨ck_42, pl_42, ns_42, fun _ => mw_42, rfl, List.mem_of_getElem? (i := 3) rfl, fun _ => rfl, rfl⟩
set_option maxRecDepth 100000 in
theorem fl_44 : ∀ m, m < 44 → FLp m := stepP fl_43 ⟨ck_43, pl_43, ns_43, fun _ => mw_43, rfl, List.mem_of_getElem? (i := 3) rfl, fun _ => rfl, rfl⟩
set_option maxRecDepth 100000 in
theorem fl_45 : ∀ m, m < 45 → FLp m := stepP fl_44 ⟨ck_44, pl_44, ns_44, fun _ => mw_44, rfl, List.mem_of_getElem? (i := 3) rfl, fun _ => rfl, rfl⟩
set_option maxRecDepth 100000 in
theorem fl_46 : ∀ m, m < 46 → FLp m := stepP fl_45 ⟨ck_45, pl_45, ns_45, fun _ => mw_45, rfl, List.mem_of_getElem? (i := 3) rfl, fun _ => rfl, rfl⟩
set_option maxRecDepth 100000 in
theorem fl_47 : ∀ m, m < 47 → FLp m := stepP fl_46 ⟨ck_46, pl_46, ns_46, fun _ => mw_46, rfl, List.mem_of_getElem? (i := 3) rfl, fun _ => rfl, rfl⟩
set_option maxRecDepth 100000 in
theorem fl_48 : ∀ m, m < 48 → FLp m := stepP fl_47 ⟨ck_47, pl_47, ns_47, fun _ => mw_47, rfl, List.mem_of_getElem? (i := 4) rfl, fun _ => rfl, rfl⟩
set_option maxRecDepth 100000 in
theorem fl_49 : ∀ m, m < 49 → FLp m := stepP fl_48 ⟨ck_48, pl_48, ns_48, fun _ => mw_48, rfl, List.mem_of_getElem? (i := 4) rfl, fun _ => rfl, rfl⟩
set_option maxRecDepth 100000 in
theorem fl_50 : ∀ m, m < 50 → FLp m := stepP fl_49 ⟨ck_49, pl_49, ns_49, fun _ => mw_49, rfl, List.mem_of_getElem? (i := 4) rfl, fun _ => rfl, rfl⟩
set_option maxRecDepth 100000 in
theorem fl_51 : ∀ m, m < 51 → FLp m := stepP fl_50 ⟨ck_50, pl_50, ns_50, fun _ => mw_50, rfl, List.mem_of_getElem? (i := 4) rfl, fun _ => rfl, rfl⟩
set_option maxRecDepth 100000 in
theorem fl_52 : ∀ m, m < 52 → FLp m := stepP fl_51 ⟨ck_51, pl_51, ns_51, fun _ => mw_51, rfl, List.mem_of_getElem? (i := 5) rfl, fun _ => rfl, rfl⟩
set_option maxRecDepth 100000 in
theorem fl_53 : ∀ m, m < 53 → FLp m := stepP fl_52 ⟨ck_52, pl_52, ns_52, fun _ => mw_52, rfl, List.mem_of_getElem? (i := 5) rfl, fun _ => rfl, rfl⟩
set_option maxRecDepth 100000 in
theorem fl_54 : ∀ m, m < 54 → FLp m := stepP fl_53 ⟨ck_53, pl_53, ns_53, fun _ => mw_53, rfl, List.mem_of_getElem? (i := 5) rfl, fun _ => rfl, rfl⟩
set_option maxRecDepth 100000 in
theorem fl_55 : ∀ m, m < 55 → FLp m := stepP fl_54 ⟨ck_54, pl_54, ns_54, fun _ => mw_54, rfl, List.mem_of_getElem? (i := 5) rfl, fun _ => rfl, rfl⟩
set_option maxRecDepth 100000 in
theorem fl_56 : ∀ m, m < 56 → FLp m := stepP fl_55 ⟨ck_55, pl_55, ns_55, fun _ => mw_55, rfl, List.mem_of_getElem? (i := 5) rfl, fun _ => rfl, rfl⟩
set_option maxRecDepth 100000 in
theorem fl_57 : ∀ m, m < 57 → FLp m := stepP fl_56 ⟨ck_56, pl_56, ns_56, fun _ => mw_56, rfl, List.mem_of_getElem? (i := 5) rfl, fun _ => rfl, rfl⟩
set_option maxRecDepth 100000 in
theorem fl_58 : ∀ m, m < 58 → FLp m := stepP fl_57 ⟨ck_57, pl_57, ns_57, fun _ => mw_57, rfl, List.mem_of_getElem? (i := 5) rfl, fun _ => rfl, rfl⟩
set_option maxRecDepth 100000 in
theorem fl_59 : ∀ m, m < 59 → FLp m := stepP fl_58 ⟨ck_58, pl_58, ns_58, fun _ => mw_58, rfl, List.mem_of_getElem? (i := 5) rfl, fun _ => rfl, rfl⟩
set_option maxRecDepth 100000 in
theorem fl_60 : ∀ m, m < 60 → FLp m := stepP fl_59 ⟨ck_59, pl_59, ns_59, fun _ => mw_59, rfl, List.mem_of_getElem? (i := 6) rfl, fun _ => rfl, rfl⟩
set_option maxRecDepth 100000 in
theorem fl_61 : ∀ m, m < 61 → FLp m := stepP fl_60 ⟨ck_60, pl_60, ns_60, fun _ => mw_60, rfl, List.mem_of_getElem? (i := 6) rfl, fun _ => rfl, rfl⟩
set_option maxRecDepth 100000 in
theorem fl_62 : ∀ m, m < 62 → FLp m := stepP fl_61 ⟨ck_61, pl_61, ns_61, fun _ => mw_61, rfl, List.mem_of_getElem? (i := 6) rfl, fun _ => rfl, rfl⟩
set_option maxRecDepth 100000 in
theorem fl_63 : ∀ m, m < 63 → FLp m := stepP fl_62 ⟨ck_62, pl_62, ns_62, fun _ => mw_62, rfl, List.mem_of_getElem? (i := 6) rfl, fun _ => rfl, rfl⟩
set_option maxRecDepth 100000 in
theorem fl_64 : ∀ m, m < 64 → FLp m := stepP fl_63 ⟨ck_63, pl_63, ns_63, fun _ => mw_63, rfl, List.mem_of_getElem? (i := 7) rfl, fun _ => rfl, rfl⟩
set_option maxRecDepth 100000 in
theorem fl_65 : ∀ m, m < 65 → FLp m := stepP fl_64 ⟨ck_64, pl_64, ns_64, fun _ => mw_64, rfl, List.mem_of_getElem? (i := 7) rfl, fun _ => rfl, rfl⟩
set_option maxRecDepth 100000 in
theorem fl_66 : ∀ m, m < 66 → FLp m := stepP fl_65 ⟨ck_65, pl_65, ns_65, fun _ => mw_65, rfl, List.mem_of_getElem? (i := 7) rfl, fun _ => rfl, rfl⟩
set_option maxRecDepth 100000 in
theorem fl_67 : ∀ m, m < 67 → FLp m := stepP fl_66 ⟨ck_66, pl_66, ns_66, fun _ => mw_66, rfl, List.mem_of_getElem? (i := 7) rfl, fun _ => rfl, rfl⟩
set_option maxRecDepth 100000 in
theorem fl_68 : ∀ m, m < 68 → FLp m := stepP fl_67 ⟨ck_67, pl_67, ns_67, fun _ => mw_67, rfl, List.mem_of_getElem? (i := 7) rfl, fun _ => rfl, rfl⟩
set_option maxRecDepth 100000 in
theorem fl_69 : ∀ m, m < 69 → FLp m := stepP fl_68 ⟨ck_68, pl_68, ns_68, fun _ => mw_68, rfl, List.mem_of_getElem? (i := 7) rfl, fun _ => rfl, rfl⟩
set_option maxRecDepth 100000 in
theorem fl_70 : ∀ m, m < 70 → FLp m := stepP fl_69 ⟨ck_69, pl_69, ns_69, fun _ => mw_69, rfl, List.mem_of_getElem? (i := 7) rfl, fun _ => rfl, rfl⟩
set_option maxRecDepth 100000 in
theorem fl_71 : ∀ m, m < 71 → FLp m := stepP fl_70 ⟨ck_70, pl_70, ns_70, fun _ => mw_70, rfl, List.mem_of_getElem? (i := 7) rfl, fun _ => rfl, rfl⟩
set_option maxRecDepth 100000 in
theorem fl_72 : ∀ m, m < 72 → FLp m := stepP fl_71 ⟨ck_71, pl_71, ns_71, fun _ => mw_71, rfl, List.mem_of_getElem? (i := 7) rfl, fun _ => rfl, rfl⟩
set_option maxRecDepth 100000 in
theorem fl_73 : ∀ m, m < 73 → FLp m := stepP fl_72 ⟨ck_72, pl_72, ns_72, fun _ => mw_72, rfl, List.mem_of_getElem? (i := 7) rfl, fun _ => rfl, rfl⟩
set_option maxRecDepth 100000 in
theorem fl_74 : ∀ m, m < 74 → FLp m := stepP fl_73 ⟨ck_73, pl_73, ns_73, fun _ => mw_73, rfl, List.mem_of_getElem? (i := 7) rfl, fun _ => rfl, rfl⟩
set_option maxRecDepth 100000 in
theorem fl_75 : ∀ m, m < 75 → FLp m := stepP fl_74 ⟨ck_74, pl_74, ns_74, fun _ => mw_74, rfl, List.mem_of_getElem? (i := 8) rfl, fun _ => rfl, rfl⟩
set_option maxRecDepth 100000 in
theorem fl_76 : ∀ m, m < 76 → FLp m := stepP fl_75 ⟨ck_75, pl_75, ns_75, fun _ => mw_75, rfl, List.mem_of_getElem? (i := 8) rfl, fun _ => rfl, rfl⟩
set_option maxRecDepth 100000 in
theorem fl_77 : ∀ m, m < 77 → FLp m := stepP fl_76 ⟨ck_76, pl_76, ns_76, fun _ => mw_76, rfl, List.mem_of_getElem? (i := 8) rfl, fun _ => rfl, rfl⟩
set_option maxRecDepth 100000 in
theorem fl_78 : ∀ m, m < 78 → FLp m := stepP fl_77 ⟨ck_77, pl_77, ns_77, fun _ => mw_77, rfl, List.mem_of_getElem? (i := 8) rfl, fun _ => rfl, rfl⟩
set_option maxRecDepth 100000 in
theorem fl_79 : ∀ m, m < 79 → FLp m := stepP fl_78 ⟨ck_78, pl_78, ns_78, fun _ => mw_78, rfl, List.mem_of_getElem? (i := 8) rfl, fun _ => rfl, rfl⟩
set_option maxRecDepth 100000 in
theorem fl_80 : ∀ m, m < 80 → FLp m := stepP fl_79 ⟨ck_79, pl_79, ns_79, fun _ => mw_79, rfl, List.mem_of_getElem? (i := 9) rfl, fun _ => rfl, rfl⟩
set_option maxRecDepth 100000 in
theorem fl_81 : ∀ m, m < 81 → FLp m := stepP fl_80 ⟨ck_80, pl_80, ns_80, fun _ => mw_80, rfl, List.mem_of_getElem? (i := 9) rfl, fun _ => rfl, rfl⟩
set_option maxRecDepth 100000 in
theorem fl_82 : ∀ m, m < 82 → FLp m := stepP fl_81 ⟨ck_81, pl_81, ns_81, fun _ => mw_81, rfl, List.mem_of_getElem? (i := 9) rfl, fun _ => rfl, rfl⟩
set_option maxRecDepth 100000 in
theorem fl_83 : ∀ m, m < 83 → FLp m := stepP fl_82 ⟨ck_82, pl_82, ns_82, fun _ => mw_82, rfl, List.mem_of_getElem? (i := 10) rfl, fun _ => rfl, rfl⟩
set_option maxRecDepth 100000 in
theorem fl_84 : ∀ m, m < 84 → FLp m := stepP fl_83 ⟨ck_83, pl_83, ns_83, fun _ => mw_83, rfl, List.mem_of_getElem? (i := 10) rfl, fun _ => rfl, rfl⟩
set_option maxRecDepth 100000 in
theorem fl_85 : ∀ m, m < 85 → FLp m := stepP fl_84 ⟨ck_84, pl_84, ns_84, fun _ => mw_84, rfl, List.mem_of_getElem? (i := 10) rfl, fun _ => rfl, rfl⟩
set_option maxRecDepth 100000 in
theorem fl_86 : ∀ m, m < 86 → FLp m := stepP fl_85 ⟨ck_85, pl_85, ns_85, fun _ => mw_85, rfl, List.mem_of_getElem? (i := 10) rfl, fun _ => rfl, rfl⟩
set_option maxRecDepth 100000 in
theorem fl_87 : ∀ m, m < 87 → FLp m := stepP fl_86 ⟨ck_86, pl_86, ns_86, fun _ => mw_86, rfl, List.mem_of_getElem? (i := 10) rfl, fun _ => rfl, rfl⟩
set_option maxRecDepth 100000 in
theorem fl_88 : ∀ m, m < 88 → FLp m := stepP fl_87 ⟨ck_87, pl_87, ns_87, fun _ => mw_87, rfl, List.mem_of_getElem? (i := 10) rfl, fun _ => rfl, rfl⟩
set_option maxRecDepth 100000 in
theorem fl_89 : ∀ m, m < 89 → FLp m := stepP fl_88 ⟨ck_88, pl_88, ns_88, fun _ => mw_88, rfl, List.mem_of_getElem? (i := 10) rfl, fun _ => rfl, rfl⟩
set_option maxRecDepth 100000 in
theorem fl_90 : ∀ m, m < 90 → FLp m := stepP fl_89 ⟨ck_89, pl_89, ns_89, fun _ => mw_89, rfl, List.mem_of_getElem? (i := 10) rfl, fun _ => rfl, rfl⟩
set_option maxRecDepth 100000 in
theorem fl_91 : ∀ m, m < 91 → FLp m := stepP fl_90 ⟨ck_90, pl_90, ns_90, fun _ => mw_90, rfl, List.mem_of_getElem? (i := 10) rfl, fun _ => rfl, rfl⟩
set_option maxRecDepth 100000 in
theorem fl_92 : ∀ m, m < 92 → FLp m := stepP fl_91 ⟨ck_91, pl_91, ns_91, fun _ => mw_91, rfl, List.mem_of_getElem? (i := 10) rfl, fun _ => rfl, rfl⟩
set_option maxRecDepth 100000 in
theorem fl_93 : ∀ m, m < 93 → FLp m := stepP fl_92 ⟨ck_92, pl_92, ns_92, fun _ => mw_92, rfl, List.mem_of_getElem? (i := 10) rfl, fun _ => rfl, rfl⟩
set_option maxRecDepth 100000 in
theorem fl_94 : ∀ m, m < 94 → FLp m := stepP fl_93 ⟨ck_93, pl_93, ns_93, fun _ => mw_93, rfl, List.mem_of_getElem? (i := 10) rfl, fun _ => rfl, rfl⟩
set_option maxRecDepth 100000 in
theorem fl_95 : ∀ m, m < 95 → FLp m := stepP fl_94 ⟨ck_94, pl_94, ns_94, fun _ => mw_94, rfl, List.mem_of_getElem? (i := 10) rfl, fun _ => rfl, rfl⟩
set_option maxRecDepth 100000 in
theorem fl_96 : ∀ m, m < 96 → FLp m := stepP fl_95 ⟨ck_95, pl_95, ns_95, fun _ => mw_95, rfl, List.mem_of_getElem? (i := 10) rfl, fun _ => rfl, rfl⟩
set_option maxRecDepth 100000 in
theorem fl_97 : ∀ m, m < 97 → FLp m := stepP fl_96 ⟨ck_96, pl_96, ns_96, fun _ => mw_96, rfl, List.mem_of_getElem? (i := 10) rfl, fun _ => rfl, rfl⟩
set_option maxRecDepth 100000 in
theorem fl_98 : ∀ m, m < 98 → FLp m := stepP fl_97 ⟨ck_97, pl_97, ns_97, fun _ => mw_97, rfl, List.mem_of_getElem? (i := 11) rfl, fun _ => rfl, rfl⟩
set_option maxRecDepth 100000 in
theorem fl_99 : ∀ m, m < 99 → FLp m := stepP fl_98 ⟨ck_98, pl_98, ns_98, fun _ => mw_98, rfl, List.mem_of_getElem? (i := 11) rfl, fun _ => rfl, rfl⟩
set_option maxRecDepth 100000 in
theorem fl_100 : ∀ m, m < 100 → FLp m := stepP fl_99 ⟨ck_99, pl_99, ns_99, fun _ => mw_99, rfl, List.mem_of_getElem? (i := 11) rfl, fun _ => rfl, rfl⟩
set_option maxRecDepth 100000 in
theorem fl_101 : ∀ m, m < 101 → FLp m := stepP fl_100 ⟨ck_100, pl_100, ns_100, fun _ => mw_100, rfl, List.mem_of_getElem? (i := 11) rfl, fun _ => rfl, rfl⟩
set_option maxRecDepth 100000 in
theorem fl_102 : ∀ m, m < 102 → FLp m := stepP fl_101 ⟨ck_101, pl_101, ns_101, fun _ => mw_101, rfl, List.mem_of_getElem? (i := 11) rfl, fun _ => rfl, rfl⟩
set_option maxRecDepth 100000 in
theorem fl_103 : ∀ m, m < 103 → FLp m := stepP fl_102 ⟨ck_102, pl_102, ns_102, fun _ => mw_102, rfl, List.mem_of_getElem? (i := 11) rfl, fun _ => rfl, rfl⟩
set_option maxRecDepth 100000 in
theorem fl_104 : ∀ m, m < 104 → FLp m := stepP fl_103 ⟨ck_103, pl_103, ns_103, fun _ => mw_103, rfl, List.mem_of_getElem? (i := 11) rfl, fun _ => rfl, rfl⟩
set_option maxRecDepth 100000 in
theorem fl_105 : ∀ m, m < 105 → FLp m := stepP fl_104 ⟨ck_104, pl_104, ns_104, fun _ => mw_104, rfl, List.mem_of_getElem? (i := 11) rfl, fun _ => rfl, rfl⟩
set_option maxRecDepth 100000 in
theorem fl_106 : ∀ m, m < 106 → FLp m := stepP fl_105 ⟨ck_105, pl_105, ns_105, fun _ => mw_105, rfl, List.mem_of_getElem? (i := 11) rfl, fun _ => rfl, rfl⟩
set_option maxRecDepth 100000 in
theorem fl_107 : ∀ m, m < 107 → FLp m := stepP fl_106 ⟨ck_106, pl_106, ns_106, fun _ => mw_106, rfl, List.mem_of_getElem? (i := 11) rfl, fun _ => rfl, rfl⟩
set_option maxRecDepth 100000 in
theorem fl_108 : ∀ m, m < 108 → FLp m := stepP fl_107 ⟨ck_107, pl_107, ns_107, fun _ => mw_107, rfl, List.mem_of_getElem? (i := 11) rfl, fun _ => rfl, rfl⟩
set_option maxRecDepth 100000 in
theorem fl_109 : ∀ m, m < 109 → FLp m := stepP fl_108 ⟨ck_108, pl_108, ns_108, fun _ => mw_108, rfl, List.mem_of_getElem? (i := 11) rfl, fun _ => rfl, rfl⟩
set_option maxRecDepth 100000 in
theorem fl_110 : ∀ m, m < 110 → FLp m := stepP fl_109 ⟨ck_109, pl_109, ns_109, fun _ => mw_109, rfl, List.mem_of_getElem? (i := 11) rfl, fun _ => rfl, rfl⟩
set_option maxRecDepth 100000 in
theorem fl_111 : ∀ m, m < 111 → FLp m := stepP fl_110 ⟨ck_110, pl_110, ns_110, fun _ => mw_110, rfl, List.mem_of_getElem? (i := 11) rfl, fun _ => rfl, rfl⟩
set_option maxRecDepth 100000 in
theorem fl_112 : ∀ m, m < 112 → FLp m := stepP fl_111 ⟨ck_111, pl_111, ns_111, fun _ => mw_111, rfl, List.mem_of_getElem? (i := 11) rfl, fun _ => rfl, rfl⟩
set_option maxRecDepth 100000 in
theorem fl_113 : ∀ m, m < 113 → FLp m := stepP fl_112 ⟨ck_112, pl_112, ns_112, fun _ => mw_112, rfl, List.mem_of_getElem? (i := 11) rfl, fun _ => rfl, rfl⟩
set_option maxRecDepth 100000 in
theorem fl_114 : ∀ m, m < 114 → FLp m := stepP fl_113 ⟨ck_113, pl_113, ns_113, fun _ => mw_113, rfl, List.mem_of_getElem? (i := 11) rfl, fun _ => rfl, rfl⟩
set_option maxRecDepth 100000 in
theorem fl_115 : ∀ m, m < 115 → FLp m := stepP fl_114 ⟨ck_114, pl_114, ns_114, fun _ => mw_114, rfl, List.mem_of_getElem? (i := 11) rfl, fun _ => rfl, rfl⟩
set_option maxRecDepth 100000 in
theorem fl_116 : ∀ m, m < 116 → FLp m := stepP fl_115 ⟨ck_115, pl_115, ns_115, fun _ => mw_115, rfl, List.mem_of_getElem? (i := 11) rfl, fun _ => rfl, rfl⟩
set_option maxRecDepth 100000 in
theorem fl_117 : ∀ m, m < 117 → FLp m := stepP fl_116 ⟨ck_116, pl_116, ns_116, fun _ => mw_116, rfl, List.mem_of_getElem? (i := 11) rfl, fun _ => rfl, rfl⟩
set_option maxRecDepth 100000 in
theorem fl_118 : ∀ m, m < 118 → FLp m := stepP fl_117 ⟨ck_117, pl_117, ns_117, fun _ => mw_117, rfl, List.mem_of_getElem? (i := 11) rfl, fun _ => rfl, rfl⟩
set_option maxRecDepth 100000 in
theorem fl_119 : ∀ m, m < 119 → FLp m := stepP fl_118 ⟨ck_118, pl_118, ns_118, fun _ => mw_118, rfl, List.mem_of_getElem? (i := 11) rfl, fun _ => rfl, rfl⟩
set_option maxRecDepth 100000 in
theorem fl_120 : ∀ m, m < 120 → FLp m := stepP fl_119 ⟨ck_119, pl_119, ns_119, fun _ => mw_119, rfl, List.mem_of_getElem? (i := 11) rfl, fun _ => rfl, rfl⟩
set_option maxRecDepth 100000 in
theorem fl_121 : ∀ m, m < 121 → FLp m := stepP fl_120 ⟨ck_120, pl_120, ns_120, fun _ => mw_120, rfl, List.mem_of_getElem? (i := 11) rfl, fun _ => rfl, rfl⟩
set_option maxRecDepth 100000 in
theorem fl_122 : ∀ m, m < 122 → FLp m := stepP fl_121 ⟨ck_121, pl_121, ns_121, fun _ => mw_121, rfl, List.mem_of_getElem? (i := 11) rfl, fun _ => rfl, rfl⟩
set_option maxRecDepth 100000 in
theorem fl_123 : ∀ m, m < 123 → FLp m := stepP fl_122 ⟨ck_122, pl_122, ns_122, fun _ => mw_122, rfl, List.mem_of_getElem? (i := 11) rfl, fun _ => rfl, rfl⟩
set_option maxRecDepth 100000 in
theorem fl_124 : ∀ m, m < 124 → FLp m := stepP fl_123 ⟨ck_123, pl_123, ns_123, fun _ => mw_123, rfl, List.mem_of_getElem? (i := 11) rfl, fun _ => rfl, rfl⟩
set_option maxRecDepth 100000 in
theorem fl_125 : ∀ m, m < 125 → FLp m := stepP fl_124 ⟨ck_124, pl_124, ns_124, fun _ => mw_124, rfl, List.mem_of_getElem? (i := 11) rfl, fun _ => rfl, rfl⟩
set_option maxRecDepth 100000 in
theorem fl_126 : ∀ m, m < 126 → FLp m := stepP fl_125 ⟨ck_125, pl_125, ns_125, fun _ => mw_125, rfl, List.mem_of_getElem? (i := 11) rfl, fun _ => rfl, rfl⟩
set_option maxRecDepth 100000 in
theorem fl_127 : ∀ m, m < 127 → FLp m := stepP fl_126 ⟨ck_126, pl_126, ns_126, fun _ => mw_126, rfl, List.mem_of_getElem? (i := 11) rfl, fun _ => rfl, rfl⟩
set_option maxRecDepth 100000 in
theorem fl_128 : ∀ m, m < 128 → FLp m := stepP fl_127 ⟨ck_127, pl_127, ns_127, fun _ => mw_127, rfl, List.mem_of_getElem? (i := 11) rfl, fun _ => rfl, rfl⟩
set_option maxRecDepth 100000 in
theorem fl_129 : ∀ m, m < 129 → FLp m := stepP fl_128 ⟨ck_128, pl_128, ns_128, fun _ => mw_128, rfl, List.mem_of_getElem? (i := 11) rfl, fun _ => rfl, rfl⟩
set_option maxRecDepth 100000 in
theorem fl_130 : ∀ m, m < 130 → FLp m := stepP fl_129 ⟨ck_129, pl_129, ns_129, fun _ => mw_129, rfl, List.mem_of_getElem? (i := 11) rfl, fun _ => rfl, rfl⟩
set_option maxRecDepth 100000 in
theorem fl_131 : ∀ m, m < 131 → FLp m := stepP fl_130 ⟨ck_130, pl_130, ns_130, fun _ => mw_130, rfl, List.mem_of_getElem? (i := 11) rfl, fun _ => rfl, rfl⟩
set_option maxRecDepth 100000 in
theorem fl_132 : ∀ m, m < 132 → FLp m := stepP fl_131 ⟨ck_131, pl_131, ns_131, fun _ => mw_131, rfl, List.mem_of_getElem? (i := 11) rfl, fun _ => rfl, rfl⟩
set_option maxRecDepth 100000 in
theorem fl_133 : ∀ m, m < 133 → FLp m := stepP fl_132 ⟨ck_132, pl_132, ns_132, fun _ => mw_132, rfl, List.mem_of_getElem? (i := 11) rfl, fun _ => rfl, rfl⟩
set_option maxRecDepth 100000 in
theorem fl_134 : ∀ m, m < 134 → FLp m := stepP fl_133 ⟨ck_133, pl_133, ns_133, fun _ => mw_133, rfl, List.mem_of_getElem? (i := 11) rfl, fun _ => rfl, rfl⟩
set_option maxRecDepth 100000 in
theorem fl_135 : ∀ m, m < 135 → FLp m := stepP fl_134 ⟨ck_134, pl_134, ns_134, fun _ => mw_134, rfl, List.mem_of_getElem? (i := 11) rfl, fun _ => rfl, rfl⟩
set_option maxRecDepth 100000 in
theorem fl_136 : ∀ m, m < 136 → FLp m := stepP fl_135 ⟨ck_135, pl_135, ns_135, fun _ => mw_135, rfl, List.mem_of_getElem? (i := 11) rfl, fun _ => rfl, rfl⟩
set_option maxRecDepth 100000 in
theorem fl_137 : ∀ m, m < 137 → FLp m := stepP fl_136 ⟨ck_136, pl_136, ns_136, fun _ => mw_136, rfl, List.mem_of_getElem? (i := 11) rfl, fun _ => rfl, rfl⟩
set_option maxRecDepth 100000 in
theorem fl_138 : ∀ m, m < 138 → FLp m := stepP fl_137 ⟨ck_137, pl_137, ns_137, fun _ => mw_137, rfl, List.mem_of_getElem? (i := 11) rfl, fun _ => rfl, rfl⟩
set_option maxRecDepth 100000 in
theorem fl_139 : ∀ m, m < 139 → FLp m := stepP fl_138 ⟨ck_138, pl_138, ns_138, fun _ => mw_138, rfl, List.mem_of_getElem? (i := 11) rfl, fun _ => rfl, rfl⟩
set_option maxRecDepth 100000 in
theorem fl_140 : ∀ m, m < 140 → FLp m := stepP fl_139 ⟨ck_139, pl_139, ns_139, fun _ => mw_139, rfl, List.mem_of_getElem? (i := 11) rfl, fun _ => rfl, rfl⟩
set_option maxRecDepth 100000 in
theorem fl_141 : ∀ m, m < 141 → FLp m := stepP fl_140 ⟨ck_140, pl_140, ns_140, fun _ => mw_140, rfl, List.mem_of_getElem? (i := 11) rfl, fun _ => rfl, rfl⟩
set_option maxRecDepth 100000 in
theorem fl_142 : ∀ m, m < 142 → FLp m := stepP fl_141 ⟨ck_141, pl_141, ns_141, fun _ => mw_141, rfl, List.mem_of_getElem? (i := 11) rfl, fun _ => rfl, rfl⟩
set_option maxRecDepth 100000 in
theorem fl_143 : ∀ m, m < 143 → FLp m := stepP fl_142 ⟨ck_142, pl_142, ns_142, fun _ => mw_142, rfl, List.mem_of_getElem? (i := 11) rfl, fun _ => rfl, rfl⟩
set_option maxRecDepth 100000 in
theorem fl_144 : ∀ m, m < 144 → FLp m := stepP fl_143 ⟨ck_143, pl_143, ns_143, fun _ => mw_143, rfl, List.mem_of_getElem? (i := 11) rfl, fun _ => rfl, rfl⟩
set_option maxRecDepth 100000 in
theorem fl_145 : ∀ m, m < 145 → FLp m := stepP fl_144 ⟨ck_144, pl_144, ns_144, fun _ => mw_144, rfl, List.mem_of_getElem? (i := 11) rfl, fun _ => rfl, rfl⟩
set_option maxRecDepth 100000 in
theorem fl_146 : ∀ m, m < 146 → FLp m := stepP fl_145 ⟨ck_145, pl_145, ns_145, fun _ => mw_145, rfl, List.mem_of_getElem? (i := 11) rfl, fun _ => rfl, rfl⟩
set_option maxRecDepth 100000 in
theorem fl_147 : ∀ m, m < 147 → FLp m := stepP fl_146 ⟨ck_146, pl_146, ns_146, fun _ => mw_146, rfl, List.mem_of_getElem? (i := 11) rfl, fun _ => rfl, rfl⟩
set_option maxRecDepth 100000 in
theorem fl_148 : ∀ m, m < 148 → FLp m := stepP fl_147 ⟨ck_147, pl_147, ns_147, fun _ => mw_147, rfl, List.mem_of_getElem? (i := 11) rfl, fun _ => rfl, rfl⟩
set_option maxRecDepth 100000 in
theorem fl_149 : ∀ m, m < 149 → FLp m := stepP fl_148 ⟨ck_148, pl_148, ns_148, fun _ => mw_148, rfl, List.mem_of_getElem? (i := 11) rfl, fun _ => rfl, rfl⟩
set_option maxRecDepth 100000 in
theorem fl_150 : ∀ m, m < 150 → FLp m := stepP fl_149 ⟨ck_149, pl_149, ns_149, fun _ => mw_149, rfl, List.mem_of_getElem? (i := 12) rfl, fun _ => rfl, rfl⟩
set_option maxRecDepth 100000 in
theorem fl_151 : ∀ m, m < 151 → FLp m := stepP fl_150 ⟨ck_150, pl_150, ns_150, fun _ => mw_150, rfl, List.mem_of_getElem? (i := 12) rfl, fun _ => rfl, rfl⟩
set_option maxRecDepth 100000 in
theorem fl_152 : ∀ m, m < 152 → FLp m := stepP fl_151 ⟨ck_151, pl_151, ns_151, fun _ => mw_151, rfl, List.mem_of_getElem? (i := 12) rfl, fun _ => rfl, rfl⟩
set_option maxRecDepth 100000 in
theorem fl_153 : ∀ m, m < 153 → FLp m := stepP fl_152 ⟨ck_152, pl_152, ns_152, fun _ => mw_152, rfl, List.mem_of_getElem? (i := 12) rfl, fun _ => rfl, rfl⟩
set_option maxRecDepth 100000 in
theorem fl_154 : ∀ m, m < 154 → FLp m := stepP fl_153 ⟨ck_153, pl_153, ns_153, fun _ => mw_153, rfl, List.mem_of_getElem? (i := 12) rfl, fun _ => rfl, rfl⟩
set_option maxRecDepth 100000 in
theorem fl_155 : ∀ m, m < 155 → FLp m := stepP fl_154 ⟨ck_154, pl_154, ns_154, fun _ => mw_154, rfl, List.mem_of_getElem? (i := 12) rfl, fun _ => rfl, rfl⟩
set_option maxRecDepth 100000 in
theorem fl_156 : ∀ m, m < 156 → FLp m := stepP fl_155 ⟨ck_155, pl_155, ns_155, fun _ => mw_155, rfl, List.mem_of_getElem? (i := 12) rfl, fun _ => rfl, rfl⟩
set_option maxRecDepth 100000 in
theorem fl_157 : ∀ m, m < 157 → FLp m := stepP fl_156 ⟨ck_156, pl_156, ns_156, fun _ => mw_156, rfl, List.mem_of_getElem? (i := 12) rfl, fun _ => rfl, rfl⟩
set_option maxRecDepth 100000 in
theorem fl_158 : ∀ m, m < 158 → FLp m := stepP fl_157 ⟨ck_157, pl_157, ns_157, fun _ => mw_157, rfl, List.mem_of_getElem? (i := 12) rfl, fun _ => rfl, rfl⟩
set_option maxRecDepth 100000 in
theorem fl_159 : ∀ m, m < 159 → FLp m := stepP fl_158 ⟨ck_158, pl_158, ns_158, fun _ => mw_158, rfl, List.mem_of_getElem? (i := 12) rfl, fun _ => rfl, rfl⟩
set_option maxRecDepth 100000 in
theorem fl_160 : ∀ m, m < 160 → FLp m := stepP fl_159 ⟨ck_159, pl_159, ns_159, fun _ => mw_159, rfl, List.mem_of_getElem? (i := 12) rfl, fun _ => rfl, rfl⟩
set_option maxRecDepth 100000 in
theorem fl_161 : ∀ m, m < 161 → FLp m := stepP fl_160 ⟨ck_160, pl_160, ns_160, fun _ => mw_160, rfl, List.mem_of_getElem? (i := 12) rfl, fun _ => rfl, rfl⟩
set_option maxRecDepth 100000 in
theorem fl_162 : ∀ m, m < 162 → FLp m := stepP fl_161 ⟨ck_161, pl_161, ns_161, fun _ => mw_161, rfl, List.mem_of_getElem? (i := 12) rfl, fun _ => rfl, rfl⟩
set_option maxRecDepth 100000 in
theorem fl_163 : ∀ m, m < 163 → FLp m := stepP fl_162 ⟨ck_162, pl_162, ns_162, fun _ => mw_162, rfl, List.mem_of_getElem? (i := 12) rfl, fun _ => rfl, rfl⟩
set_option maxRecDepth 100000 in
theorem fl_164 : ∀ m, m < 164 → FLp m := stepP fl_163 ⟨ck_163, pl_163, ns_163, fun _ => mw_163, rfl, List.mem_of_getElem? (i := 12) rfl, fun _ => rfl, rfl⟩
set_option maxRecDepth 100000 in
theorem fl_165 : ∀ m, m < 165 → FLp m := stepP fl_164 ⟨ck_164, pl_164, ns_164, fun _ => mw_164, rfl, List.mem_of_getElem? (i := 12) rfl, fun _ => rfl, rfl⟩
set_option maxRecDepth 100000 in
theorem fl_166 : ∀ m, m < 166 → FLp m := stepP fl_165 ⟨ck_165, pl_165, ns_165, fun _ => mw_165, rfl, List.mem_of_getElem? (i := 12) rfl, fun _ => rfl, rfl⟩
set_option maxRecDepth 100000 in
theorem fl_167 : ∀ m, m < 167 → FLp m := stepP fl_166 ⟨ck_166, pl_166, ns_166, fun _ => mw_166, rfl, List.mem_of_getElem? (i := 12) rfl, fun _ => rfl, rfl⟩
set_option maxRecDepth 100000 in
theorem fl_168 : ∀ m, m < 168 → FLp m := stepP fl_167 ⟨ck_167, pl_167, ns_167, fun _ => mw_167, rfl, List.mem_of_getElem? (i := 12) rfl, fun _ => rfl, rfl⟩
set_option maxRecDepth 100000 in
theorem fl_169 : ∀ m, m < 169 → FLp m := stepP fl_168 ⟨ck_168, pl_168, ns_168, fun _ => mw_168, rfl, List.mem_of_getElem? (i := 12) rfl, fun _ => rfl, rfl⟩
set_option maxRecDepth 100000 in
theorem fl_170 : ∀ m, m < 170 → FLp m := stepP fl_169 ⟨ck_169, pl_169, ns_169, fun _ => mw_169, rfl, List.mem_of_getElem? (i := 12) rfl, fun _ => rfl, rfl⟩
set_option maxRecDepth 100000 in
theorem fl_171 : ∀ m, m < 171 → FLp m := stepP fl_170 ⟨ck_170, pl_170, ns_170, fun _ => mw_170, rfl, List.mem_of_getElem? (i := 12) rfl, fun _ => rfl, rfl⟩
set_option maxRecDepth 100000 in
theorem fl_172 : ∀ m, m < 172 → FLp m := stepP fl_171 ⟨ck_171, pl_171, ns_171, fun _ => mw_171, rfl, List.mem_of_getElem? (i := 12) rfl, fun _ => rfl, rfl⟩
set_option maxRecDepth 100000 in
theorem fl_173 : ∀ m, m < 173 → FLp m := stepP fl_172 ⟨ck_172, pl_172, ns_172, fun _ => mw_172, rfl, List.mem_of_getElem? (i := 12) rfl, fun _ => rfl, rfl⟩
set_option maxRecDepth 100000 in
theorem fl_174 : ∀ m, m < 174 → FLp m := stepP fl_173 ⟨ck_173, pl_173, ns_173, fun _ => mw_173, rfl, List.mem_of_getElem? (i := 12) rfl, fun _ => rfl, rfl⟩
set_option maxRecDepth 100000 in
theorem fl_175 : ∀ m, m < 175 → FLp m := stepP fl_174 ⟨ck_174, pl_174, ns_174, fun _ => mw_174, rfl, List.mem_of_getElem? (i := 12) rfl, fun _ => rfl, rfl⟩
set_option maxRecDepth 100000 in
theorem fl_176 : ∀ m, m < 176 → FLp m := stepP fl_175 ⟨ck_175, pl_175, ns_175, fun _ => mw_175, rfl, List.mem_of_getElem? (i := 12) rfl, fun _ => rfl, rfl⟩
set_option maxRecDepth 100000 in
theorem fl_177 : ∀ m, m < 177 → FLp m := stepP fl_176 ⟨ck_176, pl_176, ns_176, fun _ => mw_176, rfl, List.mem_of_getElem? (i := 12) rfl, fun _ => rfl, rfl⟩
set_option maxRecDepth 100000 in
theorem fl_178 : ∀ m, m < 178 → FLp m := stepP fl_177 ⟨ck_177, pl_177, ns_177, fun _ => mw_177, rfl, List.mem_of_getElem? (i := 12) rfl, fun _ => rfl, rfl⟩
set_option maxRecDepth 100000 in
theorem fl_179 : ∀ m, m < 179 → FLp m := stepP fl_178 ⟨ck_178, pl_178, ns_178, fun _ => mw_178, rfl, List.mem_of_getElem? (i := 12) rfl, fun _ => rfl, rfl⟩
set_option maxRecDepth 100000 in
theorem fl_180 : ∀ m, m < 180 → FLp m := stepP fl_179 ⟨ck_179, pl_179, ns_179, fun _ => mw_179, rfl, List.mem_of_getElem? (i := 12) rfl, fun _ => rfl, rfl⟩
set_option maxRecDepth 100000 in
theorem fl_181 : ∀ m, m < 181 → FLp m := stepP fl_180 ⟨ck_180, pl_180, ns_180, fun _ => mw_180, rfl, List.mem_of_getElem? (i := 12) rfl, fun _ => rfl, rfl⟩
set_option maxRecDepth 100000 in
theorem fl_182 : ∀ m, m < 182 → FLp m := stepP fl_181 ⟨ck_181, pl_181, ns_181, fun _ => mw_181, rfl, List.mem_of_getElem? (i := 12) rfl, fun _ => rfl, rfl⟩
set_option maxRecDepth 100000 in
theorem fl_183 : ∀ m, m < 183 → FLp m := stepP fl_182 ⟨ck_182, pl_182, ns_182, fun _ => mw_182, rfl, List.mem_of_getElem? (i := 12) rfl, fun _ => rfl, rfl⟩
set_option maxRecDepth 100000 in
theorem fl_184 : ∀ m, m < 184 → FLp m := stepP fl_183 ⟨ck_183, pl_183, ns_183, fun _ => mw_183, rfl, List.mem_of_getElem? (i := 12) rfl, fun _ => rfl, rfl⟩
set_option maxRecDepth 100000 in
theorem fl_185 : ∀ m, m < 185 → FLp m := stepP fl_184 ⟨ck_184, pl_184, ns_184, fun _ => mw_184, rfl, List.mem_of_getElem? (i := 12) rfl, fun _ => rfl, rfl⟩
set_option maxRecDepth 100000 in
theorem fl_186 : ∀ m, m < 186 → FLp m := stepP fl_185 ⟨ck_185, pl_185, ns_185, fun _ => mw_185, rfl, List.mem_of_getElem? (i := 12) rfl, fun _ => rfl, rfl⟩
set_option maxRecDepth 100000 in
theorem fl_187 : ∀ m, m < 187 → FLp m := stepP fl_186 ⟨ck_186, pl_186, ns_186, fun _ => mw_186, rfl, List.mem_of_getElem? (i := 12) rfl, fun _ => rfl, rfl⟩
set_option maxRecDepth 100000 in
theorem fl_188 : ∀ m, m < 188 → FLp m := stepP fl_187 ⟨ck_187, pl_187, ns_187, fun _ => mw_187, rfl, List.mem_of_getElem? (i := 12) rfl, fun _ => rfl, rfl⟩
set_option maxRecDepth 100000 in
theorem fl_189 : ∀ m, m < 189 → FLp m := stepP fl_188 ⟨ck_188, pl_188, ns_188, fun _ => mw_188, rfl, List.mem_of_getElem? (i := 12) rfl, fun _ => rfl, rfl⟩
set_option maxRecDepth 100000 in
theorem fl_190 : ∀ m, m < 190 → FLp m := stepP fl_189 ⟨ck_189, pl_189, ns_189, fun _ => mw_189, rfl, List.mem_of_getElem? (i := 12) rfl, fun _ => rfl, rfl⟩
set_option maxRecDepth 100000 in
theorem fl_191 : ∀ m, m < 191 → FLp m := stepP fl_190 ⟨ck_190, pl_190, ns_190, fun _ => mw_190, rfl, List.mem_of_getElem? (i := 12) rfl, fun _ => rfl, rfl⟩
set_option maxRecDepth 100000 in
theorem fl_192 : ∀ m, m < 192 → FLp m := stepP fl_191 ⟨ck_191, pl_191, ns_191, fun _ => mw_191, rfl, List.mem_of_getElem? (i := 12) rfl, fun _ => rfl, rfl⟩
set_option maxRecDepth 100000 in
theorem fl_193 : ∀ m, m < 193 → FLp m := stepP fl_192 ⟨ck_192, pl_192, ns_192, fun _ => mw_192, rfl, List.mem_of_getElem? (i := 12) rfl, fun _ => rfl, rfl⟩
set_option maxRecDepth 100000 in
theorem fl_194 : ∀ m, m < 194 → FLp m := stepP fl_193 ⟨ck_193, pl_193, ns_193, fun _ => mw_193, rfl, List.mem_of_getElem? (i := 12) rfl, fun _ => rfl, rfl⟩
set_option maxRecDepth 100000 in
theorem fl_195 : ∀ m, m < 195 → FLp m := stepP fl_194 ⟨ck_194, pl_194, ns_194, fun _ => mw_194, rfl, List.mem_of_getElem? (i := 12) rfl, fun _ => rfl, rfl⟩
set_option maxRecDepth 100000 in
theorem fl_196 : ∀ m, m < 196 → FLp m := stepP fl_195 ⟨ck_195, pl_195, ns_195, fun _ => mw_195, rfl, List.mem_of_getElem? (i := 12) rfl, fun _ => rfl, rfl⟩
set_option maxRecDepth 100000 in
theorem fl_197 : ∀ m, m < 197 → FLp m := stepP fl_196 ⟨ck_196, pl_196, ns_196, fun _ => mw_196, rfl, List.mem_of_getElem? (i := 12) rfl, fun _ => rfl, rfl⟩
set_option maxRecDepth 100000 in
theorem fl_198 : ∀ m, m < 198 → FLp m := stepP fl_197 ⟨ck_197, pl_197, ns_197, fun _ => mw_197, rfl, List.mem_of_getElem? (i := 12) rfl, fun _ => rfl, rfl⟩
set_option maxRecDepth 100000 in
theorem fl_199 : ∀ m, m < 199 → FLp m := stepP fl_198 ⟨ck_198, pl_198, ns_198, fun _ => mw_198, rfl, List.mem_of_getElem? (i := 12) rfl, fun _ => rfl, rfl⟩
set_option maxRecDepth 100000 in
theorem fl_200 : ∀ m, m < 200 → FLp m := stepP fl_199 ⟨ck_199, pl_199, ns_199, fun _ => mw_199, rfl, List.mem_of_getElem? (i := 12) rfl, fun _ => rfl, rfl⟩
set_option maxRecDepth 100000 in
theorem fl_201 : ∀ m, m < 201 → FLp m := stepP fl_200 ⟨ck_200, pl_200, ns_200, fun _ => mw_200, rfl, List.mem_of_getElem? (i := 12) rfl, fun _ => rfl, rfl⟩
set_option maxRecDepth 100000 in
theorem fl_202 : ∀ m, m < 202 → FLp m := stepP fl_201 ⟨ck_201, pl_201, ns_201, fun _ => mw_201, rfl, List.mem_of_getElem? (i := 12) rfl, fun _ => rfl, rfl⟩
set_option maxRecDepth 100000 in
theorem fl_203 : ∀ m, m < 203 → FLp m := stepP fl_202 ⟨ck_202, pl_202, ns_202, fun _ => mw_202, rfl, List.mem_of_getElem? (i := 12) rfl, fun _ => rfl, rfl⟩
set_option maxRecDepth 100000 in
theorem fl_204 : ∀ m, m < 204 → FLp m := stepP fl_203 ⟨ck_203, pl_203, ns_203, fun _ => mw_203, rfl, List.mem_of_getElem? (i := 12) rfl, fun _ => rfl, rfl⟩
set_option maxRecDepth 100000 in
theorem fl_205 : ∀ m, m < 205 → FLp m := stepP fl_204 ⟨ck_204, pl_204, ns_204, fun _ => mw_204, rfl, List.mem_of_getElem? (i := 12) rfl, fun _ => rfl, rfl⟩
set_option maxRecDepth 100000 in
theorem fl_206 : ∀ m, m < 206 → FLp m := stepP fl_205 ⟨ck_205, pl_205, ns_205, fun _ => mw_205, rfl, List.mem_of_getElem? (i := 12) rfl, fun _ => rfl, rfl⟩
set_option maxRecDepth 100000 in
theorem fl_207 : ∀ m, m < 207 → FLp m := stepP fl_206 ⟨ck_206, pl_206, ns_206, fun _ => mw_206, rfl, List.mem_of_getElem? (i := 12) rfl, fun _ => rfl, rfl⟩
set_option maxRecDepth 100000 in
theorem fl_208 : ∀ m, m < 208 → FLp m := stepP fl_207 ⟨ck_207, pl_207, ns_207, fun _ => mw_207, rfl, List.mem_of_getElem? (i := 12) rfl, fun _ => rfl, rfl⟩
set_option maxRecDepth 100000 in
theorem fl_209 : ∀ m, m < 209 → FLp m := stepP fl_208 ⟨ck_208, pl_208, ns_208, fun _ => mw_208, rfl, List.mem_of_getElem? (i := 12) rfl, fun _ => rfl, rfl⟩
set_option maxRecDepth 100000 in
theorem fl_210 : ∀ m, m < 210 → FLp m := stepP fl_209 ⟨ck_209, pl_209, ns_209, fun _ => mw_209, rfl, List.mem_of_getElem? (i := 12) rfl, fun _ => rfl, rfl⟩
set_option maxRecDepth 100000 in
theorem fl_211 : ∀ m, m < 211 → FLp m := stepP fl_210 ⟨ck_210, pl_210, ns_210, fun _ => mw_210, rfl, List.mem_of_getElem? (i := 12) rfl, fun _ => rfl, rfl⟩
set_option maxRecDepth 100000 in
theorem fl_212 : ∀ m, m < 212 → FLp m := stepP fl_211 ⟨ck_211, pl_211, ns_211, fun _ => mw_211, rfl, List.mem_of_getElem? (i := 12) rfl, fun _ => rfl, rfl⟩
set_option maxRecDepth 100000 in
theorem fl_213 : ∀ m, m < 213 → FLp m := stepP fl_212 ⟨ck_212, pl_212, ns_212, fun _ => mw_212, rfl, List.mem_of_getElem? (i := 12) rfl, fun _ => rfl, rfl⟩
set_option maxRecDepth 100000 in
theorem fl_214 : ∀ m, m < 214 → FLp m := stepP fl_213 ⟨ck_213, pl_213, ns_213, fun _ => mw_213, rfl, List.mem_of_getElem? (i := 12) rfl, fun _ => rfl, rfl⟩
set_option maxRecDepth 100000 in
theorem fl_215 : ∀ m, m < 215 → FLp m := stepP fl_214 ⟨ck_214, pl_214, ns_214, fun _ => mw_214, rfl, List.mem_of_getElem? (i := 12) rfl, fun _ => rfl, rfl⟩
set_option maxRecDepth 100000 in
theorem fl_216 : ∀ m, m < 216 → FLp m := stepP fl_215 ⟨ck_215, pl_215, ns_215, fun _ => mw_215, rfl, List.mem_of_getElem? (i := 12) rfl, fun _ => rfl, rfl⟩
set_option maxRecDepth 100000 in
theorem fl_217 : ∀ m, m < 217 → FLp m := stepP fl_216 ⟨ck_216, pl_216, ns_216, fun _ => mw_216, rfl, List.mem_of_getElem? (i := 12) rfl, fun _ => rfl, rfl⟩
set_option maxRecDepth 100000 in
theorem fl_218 : ∀ m, m < 218 → FLp m := stepP fl_217 ⟨ck_217, pl_217, ns_217, fun _ => mw_217, rfl, List.mem_of_getElem? (i := 12) rfl, fun _ => rfl, rfl⟩
set_option maxRecDepth 100000 in
theorem fl_219 : ∀ m, m < 219 → FLp m := stepP fl_218 ⟨ck_218, pl_218, ns_218, fun _ => mw_218, rfl, List.mem_of_getElem? (i := 12) rfl, fun _ => rfl, rfl⟩
set_option maxRecDepth 100000 in
theorem fl_220 : ∀ m, m < 220 → FLp m := stepP fl_219 ⟨ck_219, pl_219, ns_219, fun _ => mw_219, rfl, List.mem_of_getElem? (i := 12) rfl, fun _ => rfl, rfl⟩
set_option maxRecDepth 100000 in
theorem fl_221 : ∀ m, m < 221 → FLp m := stepP fl_220 ⟨ck_220, pl_220, ns_220, fun _ => mw_220, rfl, List.mem_of_getElem? (i := 12) rfl, fun _ => rfl, rfl⟩
set_option maxRecDepth 100000 in
theorem fl_222 : ∀ m, m < 222 → FLp m := stepP fl_221 ⟨ck_221, pl_221, ns_221, fun _ => mw_221, rfl, List.mem_of_getElem? (i := 12) rfl, fun _ => rfl, rfl⟩
set_option maxRecDepth 100000 in
theorem fl_223 : ∀ m, m < 223 → FLp m := stepP fl_222 ⟨ck_222, pl_222, ns_222, fun _ => mw_222, rfl, List.mem_of_getElem? (i := 12) rfl, fun _ => rfl, rfl⟩
set_option maxRecDepth 100000 in
theorem fl_224 : ∀ m, m < 224 → FLp m := stepP fl_223 ⟨ck_223, pl_223, ns_223, fun _ => mw_223, rfl, List.mem_of_getElem? (i := 12) rfl, fun _ => rfl, rfl⟩
set_option maxRecDepth 100000 in
theorem fl_225 : ∀ m, m < 225 → FLp m := stepP fl_224 ⟨ck_224, pl_224, ns_224, fun _ => mw_224, rfl, List.mem_of_getElem? (i := 12) rfl, fun _ => rfl, rfl⟩
set_option maxRecDepth 100000 in
theorem fl_226 : ∀ m, m < 226 → FLp m := stepP fl_225 ⟨ck_225, pl_225, ns_225, fun _ => mw_225, rfl, List.mem_of_getElem? (i := 12) rfl, fun _ => rfl, rfl⟩
set_option maxRecDepth 100000 in
theorem fl_227 : ∀ m, m < 227 → FLp m := stepP fl_226 ⟨ck_226, pl_226, ns_226, fun _ => mw_226, rfl, List.mem_of_getElem? (i := 12) rfl, fun _ => rfl, rfl⟩
set_option maxRecDepth 100000 in
theorem fl_228 : ∀ m, m < 228 → FLp m := stepP fl_227 ⟨ck_227, pl_227, ns_227, fun _ => mw_227, rfl, List.mem_of_getElem? (i := 12) rfl, fun _ => rfl, rfl⟩
set_option maxRecDepth 100000 in
theorem fl_229 : ∀ m, m < 229 → FLp m := stepP fl_228 ⟨ck_228, pl_228, ns_228, fun _ => mw_228, rfl, List.mem_of_getElem? (i := 12) rfl, fun _ => rfl, rfl⟩
set_option maxRecDepth 100000 in
theorem fl_230 : ∀ m, m < 230 → FLp m := stepP fl_229 ⟨ck_229, pl_229, ns_229, fun _ => mw_229, rfl, List.mem_of_getElem? (i := 12) rfl, fun _ => rfl, rfl⟩
set_option maxRecDepth 100000 in
theorem fl_231 : ∀ m, m < 231 → FLp m := stepP fl_230 ⟨ck_230, pl_230, ns_230, fun _ => mw_230, rfl, List.mem_of_getElem? (i := 12) rfl, fun _ => rfl, rfl⟩
set_option maxRecDepth 100000 in
theorem fl_232 : ∀ m, m < 232 → FLp m := stepP fl_231 ⟨ck_231, pl_231, ns_231, fun _ => mw_231, rfl, List.mem_of_getElem? (i := 12) rfl, fun _ => rfl, rfl⟩
set_option maxRecDepth 100000 in
theorem fl_233 : ∀ m, m < 233 → FLp m := stepP fl_232 ⟨ck_232, pl_232, ns_232, fun _ => mw_232, rfl, List.mem_of_getElem? (i := 12) rfl, fun _ => rfl, rfl⟩
set_option maxRecDepth 100000 in
theorem fl_234 : ∀ m, m < 234 → FLp m := stepP fl_233 ⟨ck_233, pl_233, ns_233, fun _ => mw_233, rfl, List.mem_of_getElem? (i := 12) rfl, fun _ => rfl, rfl⟩
set_option maxRecDepth 100000 in
theorem fl_235 : ∀ m, m < 235 → FLp m := stepP fl_234 ⟨ck_234, pl_234, ns_234, fun _ => mw_234, rfl, List.mem_of_getElem? (i := 12) rfl, fun _ => rfl, rfl⟩
set_option maxRecDepth 100000 in
theorem fl_236 : ∀ m, m < 236 → FLp m := stepP fl_235 ⟨ck_235, pl_235, ns_235, fun _ => mw_235, rfl, List.mem_of_getElem? (i := 12) rfl, fun _ => rfl, rfl⟩
set_option maxRecDepth 100000 in
theorem fl_237 : ∀ m, m < 237 → FLp m := stepP fl_236 ⟨ck_236, pl_236, ns_236, fun _ => mw_236, rfl, List.mem_of_getElem? (i := 12) rfl, fun _ => rfl, rfl⟩
set_option maxRecDepth 100000 in
theorem fl_238 : ∀ m, m < 238 → FLp m := stepP fl_237 ⟨ck_237, pl_237, ns_237, fun _ => mw_237, rfl, List.mem_of_getElem? (i := 12) rfl, fun _ => rfl, rfl⟩
set_option maxRecDepth 100000 in
theorem fl_239 : ∀ m, m < 239 → FLp m := stepP fl_238 ⟨ck_238, pl_238, ns_238, fun _ => mw_238, rfl, List.mem_of_getElem? (i := 12) rfl, fun _ => rfl, rfl⟩
set_option maxRecDepth 100000 in
theorem fl_240 : ∀ m, m < 240 → FLp m := stepP fl_239 ⟨ck_239, pl_239, ns_239, fun _ => mw_239, rfl, List.mem_of_getElem? (i := 12) rfl, fun _ => rfl, rfl⟩
set_option maxRecDepth 100000 in
theorem fl_241 : ∀ m, m < 241 → FLp m := stepP fl_240 ⟨ck_240, pl_240, ns_240, fun _ => mw_240, rfl, List.mem_of_getElem? (i := 12) rfl, fun _ => rfl, rfl⟩
set_option maxRecDepth 100000 in
theorem fl_242 : ∀ m, m < 242 → FLp m := stepP fl_241 ⟨ck_241, pl_241, ns_241, fun _ => mw_241, rfl, List.mem_of_getElem? (i := 12) rfl, fun _ => rfl, rfl⟩
set_option maxRecDepth 100000 in
theorem fl_243 : ∀ m, m < 243 → FLp m := stepP fl_242 ⟨ck_242, pl_242, ns_242, fun _ => mw_242, rfl, List.mem_of_getElem? (i := 12) rfl, fun _ => rfl, rfl⟩
set_option maxRecDepth 100000 in
theorem fl_244 : ∀ m, m < 244 → FLp m := stepP fl_243 ⟨ck_243, pl_243, ns_243, fun _ => mw_243, rfl, List.mem_of_getElem? (i := 12) rfl, fun _ => rfl, rfl⟩
set_option maxRecDepth 100000 in
theorem fl_245 : ∀ m, m < 245 → FLp m := stepP fl_244 ⟨ck_244, pl_244, ns_244, fun _ => mw_244, rfl, List.mem_of_getElem? (i := 12) rfl, fun _ => rfl, rfl⟩
set_option maxRecDepth 100000 in
theorem fl_246 : ∀ m, m < 246 → FLp m := stepP fl_245 ⟨ck_245, pl_245, ns_245, fun _ => mw_245, rfl, List.mem_of_getElem? (i := 12) rfl, fun _ => rfl, rfl⟩
set_option maxRecDepth 100000 in
theorem fl_247 : ∀ m, m < 247 → FLp m := stepP fl_246 ⟨ck_246, pl_246, ns_246, fun _ => mw_246, rfl, List.mem_of_getElem? (i := 12) rfl, fun _ => rfl, rfl⟩
set_option maxRecDepth 100000 in
theorem fl_248 : ∀ m, m < 248 → FLp m := stepP fl_247 ⟨ck_247, pl_247, ns_247, fun _ => mw_247, rfl, List.mem_of_getElem? (i := 12) rfl, fun _ => rfl, rfl⟩
set_option maxRecDepth 100000 in
theorem fl_249 : ∀ m, m < 249 → FLp m := stepP fl_248 ⟨ck_248, pl_248, ns_248, fun _ => mw_248, rfl, List.mem_of_getElem? (i := 12) rfl, fun _ => rfl, rfl⟩
set_option maxRecDepth 100000 in
theorem fl_250 : ∀ m, m < 250 → FLp m := stepP fl_249 ⟨ck_249, pl_249, ns_249, fun _ => mw_249, rfl, List.mem_of_getElem? (i := 12) rfl, fun _ => rfl, rfl⟩
set_option maxRecDepth 100000 in
theorem fl_251 : ∀ m, m < 251 → FLp m := stepP fl_250 ⟨ck_250, pl_250, ns_250, fun _ => mw_250, rfl, List.mem_of_getElem? (i := 12) rfl, fun _ => rfl, rfl⟩
set_option maxRecDepth 100000 in
theorem fl_252 : ∀ m, m < 252 → FLp m := stepP fl_251 ⟨ck_251, pl_251, ns_251, fun _ => mw_251, rfl, List.mem_of_getElem? (i := 12) rfl, fun _ => rfl, rfl⟩
set_option maxRecDepth 100000 in
theorem fl_253 : ∀ m, m < 253 → FLp m := stepP fl_252 ⟨ck_252, pl_252, ns_252, fun _ => mw_252, rfl, List.mem_of_getElem? (i := 12) rfl, fun _ => rfl, rfl⟩
set_option maxRecDepth 100000 in
theorem fl_254 : ∀ m, m < 254 → FLp m := stepP fl_253 ⟨ck_253, pl_253, ns_253, fun _ => mw_253, rfl, List.mem_of_getElem? (i := 12) rfl, fun _ => rfl, rfl⟩
set_option maxRecDepth 100000 in
theorem fl_255 : ∀ m, m < 255 → FLp m := stepP fl_254 ⟨ck_254, pl_254, ns_254, fun _ => mw_254, rfl, List.mem_of_getElem? (i := 12) rfl, fun _ => rfl, rfl⟩
set_option maxRecDepth 100000 in
theorem fl_256 : ∀ m, m < 256 → FLp m := stepP fl_255 ⟨ck_255, pl_255, ns_255, fun _ => mw_255, rfl, List.mem_of_getElem? (i := 12) rfl, fun _ => rfl, rfl⟩
set_option maxRecDepth 100000 in
theorem fl_257 : ∀ m, m < 257 → FLp m := stepP fl_256 ⟨ck_256, pl_256, ns_256, fun _ => mw_256, rfl, List.mem_of_getElem? (i := 12) rfl, fun _ => rfl, rfl⟩
set_option maxRecDepth 100000 in
theorem fl_258 : ∀ m, m < 258 → FLp m := stepP fl_257 ⟨ck_257, pl_257, ns_257, fun _ => mw_257, rfl, List.mem_of_getElem? (i := 12) rfl, fun _ => rfl, rfl⟩
set_option maxRecDepth 100000 in
theorem fl_259 : ∀ m, m < 259 → FLp m := stepP fl_258 ⟨ck_258, pl_258, ns_258, fun _ => mw_258, rfl, List.mem_of_getElem? (i := 12) rfl, fun _ => rfl, rfl⟩
set_option maxRecDepth 100000 in
theorem fl_260 : ∀ m, m < 260 → FLp m := stepP fl_259 ⟨ck_259, pl_259, ns_259, fun _ => mw_259, rfl, List.mem_of_getElem? (i := 13) rfl, fun h => absurd h (by decide), rfl⟩
set_option maxRecDepth 100000 in
theorem fl_261 : ∀ m, m < 261 → FLp m := stepP fl_260 ⟨ck_260, pl_260, ns_260, fun _ => mw_260, rfl, List.mem_of_getElem? (i := 13) rfl, fun h => absurd h (by decide), rfl⟩
set_option maxRecDepth 100000 in
theorem fl_262 : ∀ m, m < 262 → FLp m := stepP fl_261 ⟨ck_261, pl_261, ns_261, fun _ => mw_261, rfl, List.mem_of_getElem? (i := 13) rfl, fun h => absurd h (by decide), rfl⟩
set_option maxRecDepth 100000 in
theorem fl_263 : ∀ m, m < 263 → FLp m := stepP fl_262 ⟨ck_262, pl_262, ns_262, fun _ => mw_262, rfl, List.mem_of_getElem? (i := 13) rfl, fun h => absurd h (by decide), rfl⟩
set_option maxRecDepth 100000 in
theorem fl_264 : ∀ m, m < 264 → FLp m := stepP fl_263 ⟨ck_263, pl_263, ns_263, fun _ => mw_263, rfl, List.mem_of_getElem? (i := 13) rfl, fun h => absurd h (by decide), rfl⟩
set_option maxRecDepth 100000 in
theorem fl_265 : ∀ m, m < 265 → FLp m := stepP fl_264 ⟨ck_264, pl_264, ns_264, fun _ => mw_264, rfl, List.mem_of_getElem? (i := 13) rfl, fun h => absurd h (by decide), rfl⟩
set_option maxRecDepth 100000 in
theorem fl_266 : ∀ m, m < 266 → FLp m := stepP fl_265 ⟨ck_265, pl_265, ns_265, fun _ => mw_265, rfl, List.mem_of_getElem? (i := 13) rfl, fun h => absurd h (by decide), rfl⟩
set_option maxRecDepth 100000 in
theorem fl_267 : ∀ m, m < 267 → FLp m := stepP fl_266 ⟨ck_266, pl_266, ns_266, fun _ => mw_266, rfl, List.mem_of_getElem? (i := 13) rfl, fun h => absurd h (by decide), rfl⟩
set_option maxRecDepth 100000 in
theorem fl_268 : ∀ m, m < 268 → FLp m := stepP fl_267 ⟨ck_267, pl_267, ns_267, fun _ => mw_267, rfl, List.mem_of_getElem? (i := 13) rfl, fun h => absurd h (by decide), rfl⟩
set_option maxRecDepth 100000 in
theorem fl_269 : ∀ m, m < 269 → FLp m := stepP fl_268 ⟨ck_268, pl_268, ns_268, fun _ => mw_268, rfl, List.mem_of_getElem? (i := 13) rfl, fun h => absurd h (by decide), rfl⟩
set_option maxRecDepth 100000 in
theorem fl_270 : ∀ m, m < 270 → FLp m := stepP fl_269 ⟨ck_269, pl_269, ns_269, fun _ => mw_269, rfl, List.mem_of_getElem? (i := 13) rfl, fun h => absurd h (by decide), rfl⟩
set_option maxRecDepth 100000 in
theorem fl_271 : ∀ m, m < 271 → FLp m := stepP fl_270 ⟨ck_270, pl_270, ns_270, fun _ => mw_270, rfl, List.mem_of_getElem? (i := 13) rfl, fun h => absurd h (by decide), rfl⟩
set_option maxRecDepth 100000 in
theorem fl_272 : ∀ m, m < 272 → FLp m := stepP fl_271 ⟨ck_271, pl_271, ns_271, fun _ => mw_271, rfl, List.mem_of_getElem? (i := 13) rfl, fun h => absurd h (by decide), rfl⟩
set_option maxRecDepth 100000 in
theorem fl_273 : ∀ m, m < 273 → FLp m := stepP fl_272 ⟨ck_272, pl_272, ns_272, fun _ => mw_272, rfl, List.mem_of_getElem? (i := 13) rfl, fun h => absurd h (by decide), rfl⟩
set_option maxRecDepth 100000 in
theorem fl_274 : ∀ m, m < 274 → FLp m := stepP fl_273 ⟨ck_273, pl_273, ns_273, fun _ => mw_273, rfl, List.mem_of_getElem? (i := 13) rfl, fun h => absurd h (by decide), rfl⟩
set_option maxRecDepth 100000 in
theorem fl_275 : ∀ m, m < 275 → FLp m := stepP fl_274 ⟨ck_274, pl_274, ns_274, fun _ => mw_274, rfl, List.mem_of_getElem? (i := 13) rfl, fun h => absurd h (by decide), rfl⟩
set_option maxRecDepth 100000 in
theorem fl_276 : ∀ m, m < 276 → FLp m := stepP fl_275 ⟨ck_275, pl_275, ns_275, fun _ => mw_275, rfl, List.mem_of_getElem? (i := 13) rfl, fun h => absurd h (by decide), rfl⟩
set_option maxRecDepth 100000 in
theorem fl_277 : ∀ m, m < 277 → FLp m := stepP fl_276 ⟨ck_276, pl_276, ns_276, fun _ => mw_276, rfl, List.mem_of_getElem? (i := 13) rfl, fun h => absurd h (by decide), rfl⟩
set_option maxRecDepth 100000 in
theorem fl_278 : ∀ m, m < 278 → FLp m := stepP fl_277 ⟨ck_277, pl_277, ns_277, fun _ => mw_277, rfl, List.mem_of_getElem? (i := 13) rfl, fun h => absurd h (by decide), rfl⟩
set_option maxRecDepth 100000 in
theorem fl_279 : ∀ m, m < 279 → FLp m := stepP fl_278 ⟨ck_278, pl_278, ns_278, fun _ => mw_278, rfl, List.mem_of_getElem? (i := 13) rfl, fun h => absurd h (by decide), rfl⟩
set_option maxRecDepth 100000 in
theorem fl_280 : ∀ m, m < 280 → FLp m := stepP fl_279 ⟨ck_279, pl_279, ns_279, fun _ => mw_279, rfl, List.mem_of_getElem? (i := 13) rfl, fun h => absurd h (by decide), rfl⟩
set_option maxRecDepth 100000 in
theorem fl_281 : ∀ m, m < 281 → FLp m := stepP fl_280 ⟨ck_280, pl_280, ns_280, fun _ => mw_280, rfl, List.mem_of_getElem? (i := 13) rfl, fun h => absurd h (by decide), rfl⟩
set_option maxRecDepth 100000 in
theorem fl_282 : ∀ m, m < 282 → FLp m := stepP fl_281 ⟨ck_281, pl_281, ns_281, fun _ => mw_281, rfl, List.mem_of_getElem? (i := 13) rfl, fun h => absurd h (by decide), rfl⟩
set_option maxRecDepth 100000 in
theorem fl_283 : ∀ m, m < 283 → FLp m := stepP fl_282 ⟨ck_282, pl_282, ns_282, fun _ => mw_282, rfl, List.mem_of_getElem? (i := 13) rfl, fun h => absurd h (by decide), rfl⟩
set_option maxRecDepth 100000 in
theorem fl_284 : ∀ m, m < 284 → FLp m := stepP fl_283 ⟨ck_283, pl_283, ns_283, fun _ => mw_283, rfl, List.mem_of_getElem? (i := 13) rfl, fun h => absurd h (by decide), rfl⟩
set_option maxRecDepth 100000 in
theorem fl_285 : ∀ m, m < 285 → FLp m := stepP fl_284 ⟨ck_284, pl_284, ns_284, fun _ => mw_284, rfl, List.mem_of_getElem? (i := 13) rfl, fun h => absurd h (by decide), rfl⟩
set_option maxRecDepth 100000 in
theorem fl_286 : ∀ m, m < 286 → FLp m := stepP fl_285 ⟨ck_285, pl_285, ns_285, fun _ => mw_285, rfl, List.mem_of_getElem? (i := 13) rfl, fun h => absurd h (by decide), rfl⟩
set_option maxRecDepth 100000 in
theorem fl_287 : ∀ m, m < 287 → FLp m := stepP fl_286 ⟨ck_286, pl_286, ns_286, fun _ => mw_286, rfl, List.mem_of_getElem? (i := 13) rfl, fun h => absurd h (by decide), rfl⟩
set_option maxRecDepth 100000 in
theorem fl_288 : ∀ m, m < 288 → FLp m := stepP fl_287 ⟨ck_287, pl_287, ns_287, fun _ => mw_287, rfl, List.mem_of_getElem? (i := 13) rfl, fun h => absurd h (by decide), rfl⟩
set_option maxRecDepth 100000 in
theorem fl_289 : ∀ m, m < 289 → FLp m := stepP fl_288 ⟨ck_288, pl_288, ns_288, fun h => absurd rfl h, rfl, List.mem_of_getElem? (i := 13) rfl, fun h => absurd h (by decide), rfl⟩
set_option maxRecDepth 100000 in
theorem fl_290 : ∀ m, m < 290 → FLp m := stepP fl_289 ⟨ck_289, pl_289, ns_289, fun _ => mw_289, rfl, List.mem_of_getElem? (i := 14) rfl, fun h => absurd h (by decide), rfl⟩
theorem np_1 : ∀ m, m < 1 → NPp m := stepP np_0 ⟨by decide +kernel, fun _ => ⟨rfl, rfl⟩⟩
theorem np_2 : ∀ m, m < 2 → NPp m := stepP np_1 ⟨by decide +kernel, fun h => by cases h⟩
theorem np_3 : ∀ m, m < 3 → NPp m := stepP np_2 ⟨by decide +kernel, fun h => by cases h⟩
theorem np_4 : ∀ m, m < 4 → NPp m := stepP np_3 ⟨by decide +kernel, fun h => by cases h⟩
theorem np_5 : ∀ m, m < 5 → NPp m := stepP np_4 ⟨by decide +kernel, fun h => by cases h⟩
theorem np_6 : ∀ m, m < 6 → NPp m := stepP np_5 ⟨by decide +kernel, fun h => by cases h⟩
theorem np_7 : ∀ m, m < 7 → NPp m := stepP np_6 ⟨by decide +kernel, fun h => by cases h⟩
theorem np_8 : ∀ m, m < 8 → NPp m := stepP np_7 ⟨by decide +kernel, fun h => by cases h⟩
theorem np_9 : ∀ m, m < 9 → NPp m := stepP np_8 ⟨by decide +kernel, fun h => by cases h⟩
theorem np_10 : ∀ m, m < 10 → NPp m := stepP np_9 ⟨by decide +kernel, fun h => by cases h⟩
theorem np_11 : ∀ m, m < 11 → NPp m := stepP np_10 ⟨by decide +kernel, fun h => by cases h⟩
theorem np_12 : ∀ m, m < 12 → NPp m := stepP np_11 ⟨by decide +kernel, fun h => by cases h⟩
theorem np_13 : ∀ m, m < 13 → NPp m := stepP np_12 ⟨by decide +kernel, fun h => by cases h⟩
theorem np_14 : ∀ m, m < 14 → NPp m := stepP np_13 ⟨by decide +kernel, fun _ => ⟨rfl, rfl⟩⟩
theorem np_15 : ∀ m, m < 15 → NPp m := stepP np_14 ⟨by decide +kernel, fun h => by cases h⟩
theorem np_16 : ∀ m, m < 16 → NPp m := stepP np_15 ⟨by decide +kernel, fun h => by cases h⟩
theorem np_17 : ∀ m, m < 17 → NPp m := stepP np_16 ⟨by decide +kernel, fun h => by cases h⟩
theorem np_18 : ∀ m, m < 18 → NPp m := stepP np_17 ⟨by decide +kernel, fun _ => ⟨rfl, rfl⟩⟩
theorem np_19 : ∀ m, m < 19 → NPp m := stepP np_18 ⟨by decide +kernel, fun h => by cases h⟩
theorem np_20 : ∀ m, m < 20 → NPp m := stepP np_19 ⟨by decide +kernel, fun h => by cases h⟩
theorem np_21 : ∀ m, m < 21 → NPp m := stepP np_20 ⟨by decide +kernel, fun h => by cases h⟩
theorem np_22 : ∀ m, m < 22 → NPp m := stepP np_21 ⟨by decide +kernel, fun h => by cases h⟩
theorem np_23 : ∀ m, m < 23 → NPp m := stepP np_22 ⟨by decide +kernel, fun h => by cases h⟩
theorem np_24 : ∀ m, m < 24 → NPp m := stepP np_23 ⟨by decide +kernel, fun h => by cases h⟩
theorem np_25 : ∀ m, m < 25 → NPp m := stepP np_24 ⟨by decide +kernel, fun h => by cases h⟩
theorem np_26 : ∀ m, m < 26 → NPp m := stepP np_25 ⟨by decide +kernel, fun h => by cases h⟩
theorem np_27 : ∀ m, m < 27 → NPp m := stepP np_26 ⟨by decide +kernel, fun h => by cases h⟩
theorem np_28 : ∀ m, m < 28 → NPp m := stepP np_27 ⟨by decide +kernel, fun h => by cases h⟩
theorem np_29 : ∀ m, m < 29 → NPp m := stepP np_28 ⟨by decide +kernel, fun _ => ⟨rfl, rfl⟩⟩
theorem np_30 : ∀ m, m < 30 → NPp m := stepP np_29 ⟨by decide +kernel, fun h => by cases h⟩
theorem np_31 : ∀ m, m < 31 → NPp m := stepP np_30 ⟨by decide +kernel, fun h => by cases h⟩
theorem np_32 : ∀ m, m < 32 → NPp m := stepP np_31 ⟨by decide +kernel, fun h => by cases h⟩
theorem np_33 : ∀ m, m < 33 → NPp m := stepP np_32 ⟨by decide +kernel, fun h => by cases h⟩
theorem np_34 : ∀ m, m < 34 → NPp m := stepP np_33 ⟨by decide +kernel, fun h => by cases h⟩
theorem np_35 : ∀ m, m < 35 → NPp m := stepP np_34 ⟨by decide +kernel, fun h => by cases h⟩
theorem np_36 : ∀ m, m < 36 → NPp m := stepP np_35 ⟨by decide +kernel, fun h => by cases h⟩
theorem np_37 : ∀ m, m < 37 → NPp m := stepP np_36 ⟨by decide +kernel, fun h => by cases h⟩
theorem np_38 : ∀ m, m < 38 → NPp m := stepP np_37 ⟨by decide +kernel, fun h => by cases h⟩
theorem np_39 : ∀ m, m < 39 → NPp m := stepP np_38 ⟨by decide +kernel, fun h => by cases h⟩
theorem np_40 : ∀ m, m < 40 → NPp m := stepP np_39 ⟨by decide +kernel, fun h => by cases h⟩
theorem np_41 : ∀ m, m < 41 → NPp m := stepP np_40 ⟨by decide +kernel, fun h => by cases h⟩
theorem np_42 : ∀ m, m < 42 → NPp m := stepP np_41 ⟨by decide +kernel, fun h => by cases h⟩
theorem np_43 : ∀ m, m < 43 → NPp m := stepP np_42 ⟨by decide +kernel, fun h => by cases h⟩
theorem np_44 : ∀ m, m < 44 → NPp m := stepP np_43 ⟨by decide +kernel, fun h => by cases h⟩
theorem np_45 : ∀ m, m < 45 → NPp m := stepP np_44 ⟨by decide +kernel, fun h => by cases h⟩
theorem np_46 : ∀ m, m < 46 → NPp m := stepP np_45 ⟨by decide +kernel, fun h => by cases h⟩
theorem np_47 : ∀ m, m < 47 → NPp m := stepP np_46 ⟨by decide +kernel, fun h => by cases h⟩
theorem np_48 : ∀ m, m < 48 → NPp m := stepP np_47 ⟨by decide +kernel, fun _ => ⟨rfl, rfl⟩⟩
theorem np_49 : ∀ m, m < 49 → NPp m := stepP np_48 ⟨by decide +kernel, fun h => by cases h⟩
theorem np_50 : ∀ m, m < 50 → NPp m := stepP np_49 ⟨by decide +kernel, fun h => by cases h⟩
theorem np_51 : ∀ m, m < 51 → NPp m := stepP np_50 ⟨by decide +kernel, fun h => by cases h⟩
theorem np_52 : ∀ m, m < 52 → NPp m := stepP np_51 ⟨by decide +kernel, fun _ => ⟨rfl, rfl⟩⟩
theorem np_53 : ∀ m, m < 53 → NPp m := stepP np_52 ⟨by decide +kernel, fun h => by cases h⟩
theorem np_54 : ∀ m, m < 54 → NPp m := stepP np_53 ⟨by decide +kernel, fun h => by cases h⟩
theorem np_55 : ∀ m, m < 55 → NPp m := stepP np_54 ⟨by decide +kernel, fun h => by cases h⟩
theorem np_56 : ∀ m, m < 56 → NPp m := stepP np_55 ⟨by decide +kernel, fun h => by cases h⟩
theorem np_57 : ∀ m, m < 57 → NPp m := stepP np_56 ⟨by decide +kernel, fun h => by cases h⟩
theorem np_58 : ∀ m, m < 58 → NPp m := stepP np_57 ⟨by decide +kernel, fun h => by cases h⟩
theorem np_59 : ∀ m, m < 59 → NPp m := stepP np_58 ⟨by decide +kernel, fun h => by cases h⟩
theorem np_60 : ∀ m, m < 60 → NPp m := stepP np_59 ⟨by decide +kernel, fun _ => ⟨rfl, rfl⟩⟩
theorem np_61 : ∀ m, m < 61 → NPp m := stepP np_60 ⟨by decide +kernel, fun h => by cases h⟩
theorem np_62 : ∀ m, m < 62 → NPp m := stepP np_61 ⟨by decide +kernel, fun h => by cases h⟩
theorem np_63 : ∀ m, m < 63 → NPp m := stepP np_62 ⟨by decide +kernel, fun h => by cases h⟩
theorem np_64 : ∀ m, m < 64 → NPp m := stepP np_63 ⟨by decide +kernel, fun _ => ⟨rfl, rfl⟩⟩
theorem np_65 : ∀ m, m < 65 → NPp m := stepP np_64 ⟨by decide +kernel, fun h => by cases h⟩
theorem np_66 : ∀ m, m < 66 → NPp m := stepP np_65 ⟨by decide +kernel, fun h => by cases h⟩
theorem np_67 : ∀ m, m < 67 → NPp m := stepP np_66 ⟨by decide +kernel, fun h => by cases h⟩
theorem np_68 : ∀ m, m < 68 → NPp m := stepP np_67 ⟨by decide +kernel, fun h => by cases h⟩
theorem np_69 : ∀ m, m < 69 → NPp m := stepP np_68 ⟨by decide +kernel, fun h => by cases h⟩
theorem np_70 : ∀ m, m < 70 → NPp m := stepP np_69 ⟨by decide +kernel, fun h => by cases h⟩
theorem np_71 : ∀ m, m < 71 → NPp m := stepP np_70 ⟨by decide +kernel, fun h => by cases h⟩
theorem np_72 : ∀ m, m < 72 → NPp m := stepP np_71 ⟨by decide +kernel, fun h => by cases h⟩
theorem np_73 : ∀ m, m < 73 → NPp m := stepP np_72 ⟨by decide +kernel, fun h => by cases h⟩
theorem np_74 : ∀ m, m < 74 → NPp m := stepP np_73 ⟨by decide +kernel, fun h => by cases h⟩
theorem np_75 : ∀ m, m < 75 → NPp m := stepP np_74 ⟨by decide +kernel, fun _ => ⟨rfl, rfl⟩⟩
theorem np_76 : ∀ m, m < 76 → NPp m := stepP np_75 ⟨by decide +kernel, fun h => by cases h⟩
theorem np_77 : ∀ m, m < 77 → NPp m := stepP np_76 ⟨by decide +kernel, fun h => by cases h⟩
theorem np_78 : ∀ m, m < 78 → NPp m := stepP np_77 ⟨by decide +kernel, fun h => by cases h⟩
theorem np_79 : ∀ m, m < 79 → NPp m := stepP np_78 ⟨by decide +kernel, fun h => by cases h⟩
theorem np_80 : ∀ m, m < 80 → NPp m := stepP np_79 ⟨by decide +kernel, fun _ => ⟨rfl, rfl⟩⟩
theorem np_81 : ∀ m, m < 81 → NPp m := stepP np_80 ⟨by decide +kernel, fun h => by cases h⟩
theorem np_82 : ∀ m, m < 82 → NPp m := stepP np_81 ⟨by decide +kernel, fun h => by cases h⟩
theorem np_83 : ∀ m, m < 83 → NPp m := stepP np_82 ⟨by decide +kernel, fun _ => ⟨rfl, rfl⟩⟩
theorem np_84 : ∀ m, m < 84 → NPp m := stepP np_83 ⟨by decide +kernel, fun h => by cases h⟩
theorem np_85 : ∀ m, m < 85 → NPp m := stepP np_84 ⟨by decide +kernel, fun h => by cases h⟩
theorem np_86 : ∀ m, m < 86 → NPp m := stepP np_85 ⟨by decide +kernel, fun h => by cases h⟩
theorem np_87 : ∀ m, m < 87 → NPp m := stepP np_86 ⟨by decide +kernel, fun h => by cases h⟩
theorem np_88 : ∀ m, m < 88 → NPp m := stepP np_87 ⟨by decide +kernel, fun h => by cases h⟩
theorem np_89 : ∀ m, m < 89 → NPp m := stepP np_88 ⟨by decide +kernel, fun h => by cases h⟩
theorem np_90 : ∀ m, m < 90 → NPp m := stepP np_89 ⟨by decide +kernel, fun h => by cases h⟩
theorem np_91 : ∀ m, m < 91 → NPp m := stepP np_90 ⟨by decide +kernel, fun h => by cases h⟩
theorem np_92 : ∀ m, m < 92 → NPp m := stepP np_91 ⟨by decide +kernel, fun h => by cases h⟩
theorem np_93 : ∀ m, m < 93 → NPp m := stepP np_92 ⟨by decide +kernel, fun h => by cases h⟩
theorem np_94 : ∀ m, m < 94 → NPp m := stepP np_93 ⟨by decide +kernel, fun h => by cases h⟩
theorem np_95 : ∀ m, m < 95 → NPp m := stepP np_94 ⟨by decide +kernel, fun h => by cases h⟩
theorem np_96 : ∀ m, m < 96 → NPp m := stepP np_95 ⟨by decide +kernel, fun h => by cases h⟩
theorem np_97 : ∀ m, m < 97 → NPp m := stepP np_96 ⟨by decide +kernel, fun h => by cases h⟩
theorem np_98 : ∀ m, m < 98 → NPp m := stepP np_97 ⟨by decide +kernel, fun _ => ⟨rfl, rfl⟩⟩
theorem np_99 : ∀ m, m < 99 → NPp m := stepP np_98 ⟨by decide +kernel, fun h => by cases h⟩
theorem np_100 : ∀ m, m < 100 → NPp m := stepP np_99 ⟨by decide +kernel, fun h => by cases h⟩
theorem np_101 : ∀ m, m < 101 → NPp m := stepP np_100 ⟨by decide +kernel, fun h => by cases h⟩
theorem np_102 : ∀ m, m < 102 → NPp m := stepP np_101 ⟨by decide +kernel, fun h => by cases h⟩
theorem np_103 : ∀ m, m < 103 → NPp m := stepP np_102 ⟨by decide +kernel, fun h => by cases h⟩
theorem np_104 : ∀ m, m < 104 → NPp m := stepP np_103 ⟨by decide +kernel, fun h => by cases h⟩
theorem np_105 : ∀ m, m < 105 → NPp m := stepP np_104 ⟨by decide +kernel, fun h => by cases h⟩
theorem np_106 : ∀ m, m < 106 → NPp m := stepP np_105 ⟨by decide +kernel, fun h => by cases h⟩
theorem np_107 : ∀ m, m < 107 → NPp m := stepP np_106 ⟨by decide +kernel, fun h => by cases h⟩
theorem np_108 : ∀ m, m < 108 → NPp m := stepP np_107 ⟨by decide +kernel, fun h => by cases h⟩
theorem np_109 : ∀ m, m < 109 → NPp m := stepP np_108 ⟨by decide +kernel, fun h => by cases h⟩
theorem np_110 : ∀ m, m < 110 → NPp m := stepP np_109 ⟨by decide +kernel, fun h => by cases h⟩
theorem np_111 : ∀ m, m < 111 → NPp m := stepP np_110 ⟨by decide +kernel, fun h => by cases h⟩
theorem np_112 : ∀ m, m < 112 → NPp m := stepP np_111 ⟨by decide +kernel, fun h => by cases h⟩
theorem np_113 : ∀ m, m < 113 → NPp m := stepP np_112 ⟨by decide +kernel, fun h => by cases h⟩
theorem np_114 : ∀ m, m < 114 → NPp m := stepP np_113 ⟨by decide +kernel, fun h => by cases h⟩
theorem np_115 : ∀ m, m < 115 → NPp m := stepP np_114 ⟨by decide +kernel, fun h => by cases h⟩
theorem np_116 : ∀ m, m < 116 → NPp m := stepP np_115 ⟨by decide +kernel, fun h => by cases h⟩
theorem np_117 : ∀ m, m < 117 → NPp m := stepP np_116 ⟨by decide +kernel, fun h => by cases h⟩
theorem np_118 : ∀ m, m < 118 → NPp m := stepP np_117 ⟨by decide +kernel, fun h => by cases h⟩
theorem np_119 : ∀ m, m < 119 → NPp m := stepP np_118 ⟨by decide +kernel, fun h => by cases h⟩
theorem np_120 : ∀ m, m < 120 → NPp m := stepP np_119 ⟨by decide +kernel, fun h => by cases h⟩
theorem np_121 : ∀ m, m < 121 → NPp m := stepP np_120 ⟨by decide +kernel, fun h => by cases h⟩
theorem np_122 : ∀ m, m < 122 → NPp m := stepP np_121 ⟨by decide +kernel, fun h => by cases h⟩
theorem np_123 : ∀ m, m < 123 → NPp m := stepP np_122 ⟨by decide +kernel, fun h => by cases h⟩
theorem np_124 : ∀ m, m < 124 → NPp m := stepP np_123 ⟨by decide +kernel, fun h => by cases h⟩
theorem np_125 : ∀ m, m < 125 → NPp m := stepP np_124 ⟨by decide +kernel, fun h => by cases h⟩
theorem np_126 : ∀ m, m < 126 → NPp m := stepP np_125 ⟨by decide +kernel, fun h => by cases h⟩
theorem np_127 : ∀ m, m < 127 → NPp m := stepP np_126 ⟨by decide +kernel, fun h => by cases h⟩
theorem np_128 : ∀ m, m < 128 → NPp m := stepP np_127 ⟨by decide +kernel, fun h => by cases h⟩
theorem np_129 : ∀ m, m < 129 → NPp m := stepP np_128 ⟨by decide +kernel, fun h => by cases h⟩
theorem np_130 : ∀ m, m < 130 → NPp m := stepP np_129 ⟨by decide +kernel, fun h => by cases h⟩
theorem np_131 : ∀ m, m < 131 → NPp m := stepP np_130 ⟨by decide +kernel, fun h => by cases h⟩
theorem np_132 : ∀ m, m < 132 → NPp m := stepP np_131 ⟨by decide +kernel, fun h => by cases h⟩
theorem np_133 : ∀ m, m < 133 → NPp m := stepP np_132 ⟨by decide +kernel, fun h => by cases h⟩
theorem np_134 : ∀ m, m < 134 → NPp m := stepP np_133 ⟨by decide +kernel, fun h => by cases h⟩
theorem np_135 : ∀ m, m < 135 → NPp m := stepP np_134 ⟨by decide +kernel, fun h => by cases h⟩
theorem np_136 : ∀ m, m < 136 → NPp m := stepP np_135 ⟨by decide +kernel, fun h => by cases h⟩
theorem np_137 : ∀ m, m < 137 → NPp m := stepP np_136 ⟨by decide +kernel, fun h => by cases h⟩
theorem np_138 : ∀ m, m < 138 → NPp m := stepP np_137 ⟨by decide +kernel, fun h => by cases h⟩
theorem np_139 : ∀ m, m < 139 → NPp m := stepP np_138 ⟨by decide +kernel, fun h => by cases h⟩
theorem np_140 : ∀ m, m < 140 → NPp m := stepP np_139 ⟨by decide +kernel, fun h => by cases h⟩
theorem np_141 : ∀ m, m < 141 → NPp m := stepP np_140 ⟨by decide +kernel, fun h => by cases h⟩
theorem np_142 : ∀ m, m < 142 → NPp m := stepP np_141 ⟨by decide +kernel, fun h => by cases h⟩
theorem np_143 : ∀ m, m < 143 → NPp m := stepP np_142 ⟨by decide +kernel, fun h => by cases h⟩
theorem np_144 : ∀ m, m < 144 → NPp m := stepP np_143 ⟨by decide +kernel, fun h => by cases h⟩
theorem np_145 : ∀ m, m < 145 → NPp m := stepP np_144 ⟨by decide +kernel, fun h => by cases h⟩
theorem np_146 : ∀ m, m < 146 → NPp m := stepP np_145 ⟨by decide +kernel, fun h => by cases h⟩
theorem np_147 : ∀ m, m < 147 → NPp m := stepP np_146 ⟨by decide +kernel, fun h => by cases h⟩
theorem np_148 : ∀ m, m < 148 → NPp m := stepP np_147 ⟨by decide +kernel, fun h => by cases h⟩
theorem np_149 : ∀ m, m < 149 → NPp m := stepP np_148 ⟨by decide +kernel, fun h => by cases h⟩
theorem np_150 : ∀ m, m < 150 → NPp m := stepP np_149 ⟨by decide +kernel, fun _ => ⟨rfl, rfl⟩⟩
theorem np_151 : ∀ m, m < 151 → NPp m := stepP np_150 ⟨by decide +kernel, fun h => by cases h⟩
theorem np_152 : ∀ m, m < 152 → NPp m := stepP np_151 ⟨by decide +kernel, fun h => by cases h⟩
theorem np_153 : ∀ m, m < 153 → NPp m := stepP np_152 ⟨by decide +kernel, fun h => by cases h⟩
theorem np_154 : ∀ m, m < 154 → NPp m := stepP np_153 ⟨by decide +kernel, fun h => by cases h⟩
theorem np_155 : ∀ m, m < 155 → NPp m := stepP np_154 ⟨by decide +kernel, fun h => by cases h⟩
theorem np_156 : ∀ m, m < 156 → NPp m := stepP np_155 ⟨by decide +kernel, fun h => by cases h⟩
theorem np_157 : ∀ m, m < 157 → NPp m := stepP np_156 ⟨by decide +kernel, fun h => by cases h⟩
theorem np_158 : ∀ m, m < 158 → NPp m := stepP np_157 ⟨by decide +kernel, fun h => by cases h⟩
theorem np_159 : ∀ m, m < 159 → NPp m := stepP np_158 ⟨by decide +kernel, fun h => by cases h⟩
theorem np_160 : ∀ m, m < 160 → NPp m := stepP np_159 ⟨by decide +kernel, fun h => by cases h⟩
theorem np_161 : ∀ m, m < 161 → NPp m := stepP np_160 ⟨by decide +kernel, fun h => by cases h⟩
theorem np_162 : ∀ m, m < 162 → NPp m := stepP np_161 ⟨by decide +kernel, fun h => by cases h⟩
theorem np_163 : ∀ m, m < 163 → NPp m := stepP np_162 ⟨by decide +kernel, fun h => by cases h⟩
theorem np_164 : ∀ m, m < 164 → NPp m := stepP np_163 ⟨by decide +kernel, fun h => by cases h⟩
theorem np_165 : ∀ m, m < 165 → NPp m := stepP np_164 ⟨by decide +kernel, fun h => by cases h⟩
theorem np_166 : ∀ m, m < 166 → NPp m := stepP np_165 ⟨by decide +kernel, fun h => by cases h⟩
theorem np_167 : ∀ m, m < 167 → NPp m := stepP np_166 ⟨by decide +kernel, fun h => by cases h⟩
theorem np_168 : ∀ m, m < 168 → NPp m := stepP np_167 ⟨by decide +kernel, fun h => by cases h⟩
theorem np_169 : ∀ m, m < 169 → NPp m := stepP np_168 ⟨by decide +kernel, fun h => by cases h⟩
theorem np_170 : ∀ m, m < 170 → NPp m := stepP np_169 ⟨by decide +kernel, fun h => by cases h⟩
theorem np_171 : ∀ m, m < 171 → NPp m := stepP np_170 ⟨by decide +kernel, fun h => by cases h⟩
theorem np_172 : ∀ m, m < 172 → NPp m := stepP np_171 ⟨by decide +kernel, fun h => by cases h⟩
theorem np_173 : ∀ m, m < 173 → NPp m := stepP np_172 ⟨by decide +kernel, fun h => by cases h⟩
theorem np_174 : ∀ m, m < 174 → NPp m := stepP np_173 ⟨by decide +kernel, fun h => by cases h⟩
theorem np_175 : ∀ m, m < 175 → NPp m := stepP np_174 ⟨by decide +kernel, fun h => by cases h⟩
theorem np_176 : ∀ m, m < 176 → NPp m := stepP np_175 ⟨by decide +kernel, fun h => by cases h⟩
theorem np_177 : ∀ m, m < 177 → NPp m := stepP np_176 ⟨by decide +kernel, fun h => by cases h⟩
theorem np_178 : ∀ m, m < 178 → NPp m := stepP np_177 ⟨by decide +kernel, fun h => by cases h⟩
theorem np_179 : ∀ m, m < 179 → NPp m := stepP np_178 ⟨by decide +kernel, fun h => by cases h⟩
theorem np_180 : ∀ m, m < 180 → NPp m := stepP np_179 ⟨by decide +kernel, fun h => by cases h⟩
theorem np_181 : ∀ m, m < 181 → NPp m := stepP np_180 ⟨by decide +kernel, fun h => by cases h⟩
theorem np_182 : ∀ m, m < 182 → NPp m := stepP np_181 ⟨by decide +kernel, fun h => by cases h⟩
theorem np_183 : ∀ m, m < 183 → NPp m := stepP np_182 ⟨by decide +kernel, fun h => by cases h⟩
theorem np_184 : ∀ m, m < 184 → NPp m := stepP np_183 ⟨by decide +kernel, fun h => by cases h⟩
theorem np_185 : ∀ m, m < 185 → NPp m := stepP np_184 ⟨by decide +kernel, fun h => by cases h⟩
theorem np_186 : ∀ m, m < 186 → NPp m := stepP np_185 ⟨by decide +kernel, fun h => by cases h⟩
theorem np_187 : ∀ m, m < 187 → NPp m := stepP np_186 ⟨by decide +kernel, fun h => by cases h⟩
theorem np_188 : ∀ m, m < 188 → NPp m := stepP np_187 ⟨by decide +kernel, fun h => by cases h⟩
theorem np_189 : ∀ m, m < 189 → NPp m := stepP np_188 ⟨by decide +kernel, fun h => by cases h⟩
theorem np_190 : ∀ m, m < 190 → NPp m := stepP np_189 ⟨by decide +kernel, fun h => by cases h⟩
theorem np_191 : ∀ m, m < 191 → NPp m := stepP np_190 ⟨by decide +kernel, fun h => by cases h⟩
theorem np_192 : ∀ m, m < 192 → NPp m := stepP np_191 ⟨by decide +kernel, fun h => by cases h⟩
theorem np_193 : ∀ m, m < 193 → NPp m := stepP np_192 ⟨by decide +kernel, fun h => by cases h⟩
theorem np_194 : ∀ m, m < 194 → NPp m := stepP np_193 ⟨by decide +kernel, fun h => by cases h⟩
theorem np_195 : ∀ m, m < 195 → NPp m := stepP np_194 ⟨by decide +kernel, fun h => by cases h⟩
theorem np_196 : ∀ m, m < 196 → NPp m := stepP np_195 ⟨by decide +kernel, fun h => by cases h⟩
theorem np_197 : ∀ m, m < 197 → NPp m := stepP np_196 ⟨by decide +kernel, fun h => by cases h⟩
theorem np_198 : ∀ m, m < 198 → NPp m := stepP np_197 ⟨by decide +kernel, fun h => by cases h⟩
theorem np_199 : ∀ m, m < 199 → NPp m := stepP np_198 ⟨by decide +kernel, fun h => by cases h⟩
theorem np_200 : ∀ m, m < 200 → NPp m := stepP np_199 ⟨by decide +kernel, fun h => by cases h⟩
theorem np_201 : ∀ m, m < 201 → NPp m := stepP np_200 ⟨by decide +kernel, fun h => by cases h⟩
theorem np_202 : ∀ m, m < 202 → NPp m := stepP np_201 ⟨by decide +kernel, fun h => by cases h⟩
theorem np_203 : ∀ m, m < 203 → NPp m := stepP np_202 ⟨by decide +kernel, fun h => by cases h⟩
theorem np_204 : ∀ m, m < 204 → NPp m := stepP np_203 ⟨by decide +kernel, fun h => by cases h⟩
theorem np_205 : ∀ m, m < 205 → NPp m := stepP np_204 ⟨by decide +kernel, fun h => by cases h⟩
theorem np_206 : ∀ m, m < 206 → NPp m := stepP np_205 ⟨by decide +kernel, fun h => by cases h⟩
theorem np_207 : ∀ m, m < 207 → NPp m := stepP np_206 ⟨by decide +kernel, fun h => by cases h⟩
theorem np_208 : ∀ m, m < 208 → NPp m := stepP np_207 ⟨by decide +kernel, fun h => by cases h⟩
theorem np_209 : ∀ m, m < 209 → NPp m := stepP np_208 ⟨by decide +kernel, fun h => by cases h⟩
theorem np_210 : ∀ m, m < 210 → NPp m := stepP np_209 ⟨by decide +kernel, fun h => by cases h⟩
theorem np_211 : ∀ m, m < 211 → NPp m := stepP np_210 ⟨by decide +kernel, fun h => by cases h⟩
theorem np_212 : ∀ m, m < 212 → NPp m := stepP np_211 ⟨by decide +kernel, fun h => by cases h⟩
theorem np_213 : ∀ m, m < 213 → NPp m := stepP np_212 ⟨by decide +kernel, fun h => by cases h⟩
theorem np_214 : ∀ m, m < 214 → NPp m := stepP np_213 ⟨by decide +kernel, fun h => by cases h⟩
theorem np_215 : ∀ m, m < 215 → NPp m := stepP np_214 ⟨by decide +kernel, fun h => by cases h⟩
theorem np_216 : ∀ m, m < 216 → NPp m := stepP np_215 ⟨by decide +kernel, fun h => by cases h⟩
theorem np_217 : ∀ m, m < 217 → NPp m := stepP np_216 ⟨by decide +kernel, fun h => by cases h⟩
theorem np_218 : ∀ m, m < 218 → NPp m := stepP np_217 ⟨by decide +kernel, fun h => by cases h⟩
theorem np_219 : ∀ m, m < 219 → NPp m := stepP np_218 ⟨by decide +kernel, fun h => by cases h⟩
theorem np_220 : ∀ m, m < 220 → NPp m := stepP np_219 ⟨by decide +kernel, fun h => by cases h⟩
theorem np_221 : ∀ m, m < 221 → NPp m := stepP np_220 ⟨by decide +kernel, fun h => by cases h⟩
theorem np_222 : ∀ m, m < 222 → NPp m := stepP np_221 ⟨by decide +kernel, fun h => by cases h⟩
theorem np_223 : ∀ m, m < 223 → NPp m := stepP np_222 ⟨by decide +kernel, fun h => by cases h⟩
theorem np_224 : ∀ m, m < 224 → NPp m := stepP np_223 ⟨by decide +kernel, fun h => by cases h⟩
theorem np_225 : ∀ m, m < 225 → NPp m := stepP np_224 ⟨by decide +kernel, fun h => by cases h⟩
theorem np_226 : ∀ m, m < 226 → NPp m := stepP np_225 ⟨by decide +kernel, fun h => by cases h⟩
theorem np_227 : ∀ m, m < 227 → NPp m := stepP np_226 ⟨by decide +kernel, fun h => by cases h⟩
theorem np_228 : ∀ m, m < 228 → NPp m := stepP np_227 ⟨by decide +kernel, fun h => by cases h⟩
theorem np_229 : ∀ m, m < 229 → NPp m := stepP np_228 ⟨by decide +kernel, fun h => by cases h⟩
theorem np_230 : ∀ m, m < 230 → NPp m := stepP np_229 ⟨by decide +kernel, fun h => by cases h⟩
theorem np_231 : ∀ m, m < 231 → NPp m := stepP np_230 ⟨by decide +kernel, fun h => by cases h⟩
theorem np_232 : ∀ m, m < 232 → NPp m := stepP np_231 ⟨by decide +kernel, fun h => by cases h⟩
theorem np_233 : ∀ m, m < 233 → NPp m := stepP np_232 ⟨by decide +kernel, fun h => by cases h⟩
theorem np_234 : ∀ m, m < 234 → NPp m := stepP np_233 ⟨by decide +kernel, fun h => by cases h⟩
theorem np_235 : ∀ m, m < 235 → NPp m := stepP np_234 ⟨by decide +kernel, fun h => by cases h⟩
theorem np_236 : ∀ m, m < 236 → NPp m := stepP np_235 ⟨by decide +kernel, fun h => by cases h⟩
theorem np_237 : ∀ m, m < 237 → NPp m := stepP np_236 ⟨by decide +kernel, fun h => by cases h⟩
theorem np_238 : ∀ m, m < 238 → NPp m := stepP np_237 ⟨by decide +kernel, fun h => by cases h⟩
theorem np_239 : ∀ m, m < 239 → NPp m := stepP np_238 ⟨by decide +kernel, fun h => by cases h⟩
theorem np_240 : ∀ m, m < 240 → NPp m := stepP np_239 ⟨by decide +kernel, fun h => by cases h⟩
theorem np_241 : ∀ m, m < 241 → NPp m := stepP np_240 ⟨by decide +kernel, fun h => by cases h⟩
theorem np_242 : ∀ m, m < 242 → NPp m := stepP np_241 ⟨by decide +kernel, fun h => by cases h⟩
theorem np_243 : ∀ m, m < 243 → NPp m := stepP np_242 ⟨by decide +kernel, fun h => by cases h⟩
theorem np_244 : ∀ m, m < 244 → NPp m := stepP np_243 ⟨by decide +kernel, fun h => by cases h⟩
theorem np_245 : ∀ m, m < 245 → NPp m := stepP np_244 ⟨by decide +kernel, fun h => by cases h⟩
theorem np_246 : ∀ m, m < 246 → NPp m := stepP np_245 ⟨by decide +kernel, fun h => by cases h⟩
theorem np_247 : ∀ m, m < 247 → NPp m := stepP np_246 ⟨by decide +kernel, fun h => by cases h⟩
theorem np_248 : ∀ m, m < 248 → NPp m := stepP np_247 ⟨by decide +kernel, fun h => by cases h⟩
theorem np_249 : ∀ m, m < 249 → NPp m := stepP np_248 ⟨by decide +kernel, fun h => by cases h⟩
theorem np_250 : ∀ m, m < 250 → NPp m := stepP np_249 ⟨by decide +kernel, fun h => by cases h⟩
theorem np_251 : ∀ m, m < 251 → NPp m := stepP np_250 ⟨by decide +kernel, fun h => by cases h⟩
theorem np_252 : ∀ m, m < 252 → NPp m := stepP np_251 ⟨by decide +kernel, fun h => by cases h⟩
theorem np_253 : ∀ m, m < 253 → NPp m := stepP np_252 ⟨by decide +kernel, fun h => by cases h⟩
theorem np_254 : ∀ m, m < 254 → NPp m := stepP np_253 ⟨by decide +kernel, fun h => by cases h⟩
theorem np_255 : ∀ m, m < 255 → NPp m := stepP np_254 ⟨by decide +kernel, fun h => by cases h⟩
theorem np_256 : ∀ m, m < 256 → NPp m := stepP np_255 ⟨by decide +kernel, fun h => by cases h⟩
theorem np_257 : ∀ m, m < 257 → NPp m := stepP np_256 ⟨by decide +kernel, fun h => by cases h⟩
theorem np_258 : ∀ m, m < 258 → NPp m := stepP np_257 ⟨by decide +kernel, fun h => by cases h⟩
theorem np_259 : ∀ m, m < 259 → NPp m := stepP np_258 ⟨by decide +kernel, fun h => by cases h⟩
theorem np_260 : ∀ m, m < 260 → NPp m := stepP np_259 ⟨by decide +kernel, fun h => by cases h⟩
theorem np_261 : ∀ m, m < 261 → NPp m := stepP np_260 ⟨by decide +kernel, fun h => by cases h⟩
theorem np_262 : ∀ m, m < 262 → NPp m := stepP np_261 ⟨by decide +kernel, fun h => by cases h⟩
theorem np_263 : ∀ m, m < 263 → NPp m := stepP np_262 ⟨by decide +kernel, fun h => by cases h⟩
theorem np_264 : ∀ m, m < 264 → NPp m := stepP np_263 ⟨by decide +kernel, fun h => by cases h⟩
theorem np_265 : ∀ m, m < 265 → NPp m := stepP np_264 ⟨by decide +kernel, fun h => by cases h⟩
theorem np_266 : ∀ m, m < 266 → NPp m := stepP np_265 ⟨by decide +kernel, fun h => by cases h⟩
theorem np_267 : ∀ m, m < 267 → NPp m := stepP np_266 ⟨by decide +kernel, fun h => by cases h⟩
theorem np_268 : ∀ m, m < 268 → NPp m := stepP np_267 ⟨by decide +kernel, fun h => by cases h⟩
theorem np_269 : ∀ m, m < 269 → NPp m := stepP np_268 ⟨by decide +kernel, fun h => by cases h⟩
theorem np_270 : ∀ m, m < 270 → NPp m := stepP np_269 ⟨by decide +kernel, fun h => by cases h⟩
theorem np_271 : ∀ m, m < 271 → NPp m := stepP np_270 ⟨by decide +kernel, fun h => by cases h⟩
theorem np_272 : ∀ m, m < 272 → NPp m := stepP np_271 ⟨by decide +kernel, fun h => by cases h⟩
theorem np_273 : ∀ m, m < 273 → NPp m := stepP np_272 ⟨by decide +kernel, fun h => by cases h⟩
theorem np_274 : ∀ m, m < 274 → NPp m := stepP np_273 ⟨by decide +kernel, fun h => by cases h⟩
theorem np_275 : ∀ m, m < 275 → NPp m := stepP np_274 ⟨by decide +kernel, fun h => by cases h⟩
theorem np_276 : ∀ m, m < 276 → NPp m := stepP np_275 ⟨by decide +kernel, fun h => by cases h⟩
theorem np_277 : ∀ m, m < 277 → NPp m := stepP np_276 ⟨by decide +kernel, fun h => by cases h⟩
theorem np_278 : ∀ m, m < 278 → NPp m := stepP np_277 ⟨by decide +kernel, fun h => by cases h⟩
theorem np_279 : ∀ m, m < 279 → NPp m := stepP np_278 ⟨by decide +kernel, fun h => by cases h⟩
theorem np_280 : ∀ m, m < 280 → NPp m := stepP np_279 ⟨by decide +kernel, fun h => by cases h⟩
theorem np_281 : ∀ m, m < 281 → NPp m := stepP np_280 ⟨by decide +kernel, fun h => by cases h⟩
theorem np_282 : ∀ m, m < 282 → NPp m := stepP np_281 ⟨by decide +kernel, fun h => by cases h⟩
theorem np_283 : ∀ m, m < 283 → NPp m := stepP np_282 ⟨by decide +kernel, fun h => by cases h⟩
theorem np_284 : ∀ m, m < 284 → NPp m := stepP np_283 ⟨by decide +kernel, fun h => by cases h⟩
theorem np_285 : ∀ m, m < 285 → NPp m := stepP np_284 ⟨by decide +kernel, fun h => by cases h⟩
theorem np_286 : ∀ m, m < 286 → NPp m := stepP np_285 ⟨by decide +kernel, fun h => by cases h⟩
theorem np_287 : ∀ m, m < 287 → NPp m := stepP np_286 ⟨by decide +kernel, fun h => by cases h⟩
theorem np_288 : ∀ m, m < 288 → NPp m := stepP np_287 ⟨by decide +kernel, fun h => by cases h⟩
theorem np_289 : ∀ m, m < 289 → NPp m := stepP np_288 ⟨by decide +kernel, fun h => by cases h⟩
theorem np_290 : ∀ m, m < 290 → NPp m := stepP np_289 ⟨by decide +kernel, fun h => by cases h⟩
