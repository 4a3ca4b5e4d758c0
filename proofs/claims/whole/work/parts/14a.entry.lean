/-! the entry: the claim out of a run of the pure machine -/
def ew : List Cond := [.laysStatic Bundle.tN "UNASSIGNED_STACK" Bundle.steD, .laysStatic Bundle.tN "SUPPRESSED_SENTINEL" Bundle.listD, .laysStatic "java/lang/String" "COMPACT_STRINGS" "Z", .laysStatic "jdk/internal/util/Preconditions" "SIOOBE_FORMATTER" "Ljava/util/function/BiFunction;", .initialized Bundle.tN, .initialized "java/lang/String", .initialized "jdk/internal/util/Preconditions", .arrayOver (.object RX3), .arrayOver (.object RX6), .arrayOver (.array .int), .castable (excN 0) (excN 0), .castable (excN 1) (excN 1), .declares (Bundle.initS "java/lang/RuntimeException"), .declares (Bundle.initS "java/lang/Exception"), .declares (Bundle.initS Bundle.tN), .stringRef RX0 91 "cell", .stringRef RX0 97 "strip", .stringRef RX0 99 "deed", .stringRef RX0 101 "rain", .stringRef RX0 102 "milk", .stringRef RX0 103 "sight", .stringRef RX2 69 "least", .stringRef RX2 75 "most", .stringRef RX2 88 "sun", .stringRef RX2 90 "yards", .stringRef RX2 92 "grey", .stringRef RX2 94 "rain", .stringRef RX2 96 "wet", .stringRef RX2 98 "milk", .stringRef RX2 100 "day", .stringRef RX2 102 "first", .stringRef RX7 75 "lay", .stringRef RX7 81 "fold", .stringRef RX7 83 "wet", .stringRef RX7 85 "milk", .stringRef RX7 87 "mole", .stringRef RX7 89 "day", .stringRef RX7 91 "again", .stringRef RX11 369 "not so", .stringRef RX11 376 "no such one"]

set_option maxRecDepth 100000 in
theorem ew_0 : Cond.laysStatic Bundle.tN "UNASSIGNED_STACK" Bundle.steD ∈ lw_tbl := List.mem_of_getElem? (i := 652) rfl
set_option maxRecDepth 100000 in
theorem ew_1 : Cond.laysStatic Bundle.tN "SUPPRESSED_SENTINEL" Bundle.listD ∈ lw_tbl := List.mem_of_getElem? (i := 654) rfl
set_option maxRecDepth 100000 in
theorem ew_2 : Cond.laysStatic "java/lang/String" "COMPACT_STRINGS" "Z" ∈ lw_tbl := List.mem_of_getElem? (i := 732) rfl
set_option maxRecDepth 100000 in
theorem ew_3 : Cond.laysStatic "jdk/internal/util/Preconditions" "SIOOBE_FORMATTER" "Ljava/util/function/BiFunction;" ∈ lw_tbl := List.mem_of_getElem? (i := 748) rfl
set_option maxRecDepth 100000 in
theorem ew_4 : Cond.initialized Bundle.tN ∈ lw_tbl := List.mem_of_getElem? (i := 104) rfl
set_option maxRecDepth 100000 in
theorem ew_5 : Cond.initialized "java/lang/String" ∈ lw_tbl := List.mem_of_getElem? (i := 109) rfl
set_option maxRecDepth 100000 in
theorem ew_6 : Cond.initialized "jdk/internal/util/Preconditions" ∈ lw_tbl := List.mem_of_getElem? (i := 111) rfl
set_option maxRecDepth 100000 in
theorem ew_7 : Cond.arrayOver (.object RX3) ∈ lw_tbl := List.mem_of_getElem? (i := 243) rfl
set_option maxRecDepth 100000 in
theorem ew_8 : Cond.arrayOver (.object RX6) ∈ lw_tbl := List.mem_of_getElem? (i := 253) rfl
set_option maxRecDepth 100000 in
theorem ew_9 : Cond.arrayOver (.array .int) ∈ lw_tbl := List.mem_of_getElem? (i := 1372) rfl
set_option maxRecDepth 100000 in
theorem ew_10 : Cond.castable (excN 0) (excN 0) ∈ lw_tbl := List.mem_of_getElem? (i := 627) rfl
set_option maxRecDepth 100000 in
theorem ew_11 : Cond.castable (excN 1) (excN 1) ∈ lw_tbl := List.mem_of_getElem? (i := 1056) rfl
set_option maxRecDepth 100000 in
theorem ew_12 : Cond.declares (Bundle.initS "java/lang/RuntimeException") ∈ lw_tbl := List.mem_of_getElem? (i := 629) rfl
set_option maxRecDepth 100000 in
theorem ew_13 : Cond.declares (Bundle.initS "java/lang/Exception") ∈ lw_tbl := List.mem_of_getElem? (i := 631) rfl
set_option maxRecDepth 100000 in
theorem ew_14 : Cond.declares (Bundle.initS Bundle.tN) ∈ lw_tbl := List.mem_of_getElem? (i := 633) rfl
set_option maxRecDepth 100000 in
theorem ew_15 : Cond.stringRef RX0 91 "cell" ∈ lw_tbl := List.mem_of_getElem? (i := 718) rfl
set_option maxRecDepth 100000 in
theorem ew_16 : Cond.stringRef RX0 97 "strip" ∈ lw_tbl := List.mem_of_getElem? (i := 771) rfl
set_option maxRecDepth 100000 in
theorem ew_17 : Cond.stringRef RX0 99 "deed" ∈ lw_tbl := List.mem_of_getElem? (i := 772) rfl
set_option maxRecDepth 100000 in
theorem ew_18 : Cond.stringRef RX0 101 "rain" ∈ lw_tbl := List.mem_of_getElem? (i := 773) rfl
set_option maxRecDepth 100000 in
theorem ew_19 : Cond.stringRef RX0 102 "milk" ∈ lw_tbl := List.mem_of_getElem? (i := 774) rfl
set_option maxRecDepth 100000 in
theorem ew_20 : Cond.stringRef RX0 103 "sight" ∈ lw_tbl := List.mem_of_getElem? (i := 775) rfl
set_option maxRecDepth 100000 in
theorem ew_21 : Cond.stringRef RX2 69 "least" ∈ lw_tbl := List.mem_of_getElem? (i := 860) rfl
set_option maxRecDepth 100000 in
theorem ew_22 : Cond.stringRef RX2 75 "most" ∈ lw_tbl := List.mem_of_getElem? (i := 861) rfl
set_option maxRecDepth 100000 in
theorem ew_23 : Cond.stringRef RX2 88 "sun" ∈ lw_tbl := List.mem_of_getElem? (i := 851) rfl
set_option maxRecDepth 100000 in
theorem ew_24 : Cond.stringRef RX2 90 "yards" ∈ lw_tbl := List.mem_of_getElem? (i := 853) rfl
set_option maxRecDepth 100000 in
theorem ew_25 : Cond.stringRef RX2 92 "grey" ∈ lw_tbl := List.mem_of_getElem? (i := 854) rfl
set_option maxRecDepth 100000 in
theorem ew_26 : Cond.stringRef RX2 94 "rain" ∈ lw_tbl := List.mem_of_getElem? (i := 855) rfl
set_option maxRecDepth 100000 in
theorem ew_27 : Cond.stringRef RX2 96 "wet" ∈ lw_tbl := List.mem_of_getElem? (i := 856) rfl
set_option maxRecDepth 100000 in
theorem ew_28 : Cond.stringRef RX2 98 "milk" ∈ lw_tbl := List.mem_of_getElem? (i := 857) rfl
set_option maxRecDepth 100000 in
theorem ew_29 : Cond.stringRef RX2 100 "day" ∈ lw_tbl := List.mem_of_getElem? (i := 858) rfl
set_option maxRecDepth 100000 in
theorem ew_30 : Cond.stringRef RX2 102 "first" ∈ lw_tbl := List.mem_of_getElem? (i := 859) rfl
set_option maxRecDepth 100000 in
theorem ew_31 : Cond.stringRef RX7 75 "lay" ∈ lw_tbl := List.mem_of_getElem? (i := 897) rfl
set_option maxRecDepth 100000 in
theorem ew_32 : Cond.stringRef RX7 81 "fold" ∈ lw_tbl := List.mem_of_getElem? (i := 899) rfl
set_option maxRecDepth 100000 in
theorem ew_33 : Cond.stringRef RX7 83 "wet" ∈ lw_tbl := List.mem_of_getElem? (i := 900) rfl
set_option maxRecDepth 100000 in
theorem ew_34 : Cond.stringRef RX7 85 "milk" ∈ lw_tbl := List.mem_of_getElem? (i := 901) rfl
set_option maxRecDepth 100000 in
theorem ew_35 : Cond.stringRef RX7 87 "mole" ∈ lw_tbl := List.mem_of_getElem? (i := 902) rfl
set_option maxRecDepth 100000 in
theorem ew_36 : Cond.stringRef RX7 89 "day" ∈ lw_tbl := List.mem_of_getElem? (i := 903) rfl
set_option maxRecDepth 100000 in
theorem ew_37 : Cond.stringRef RX7 91 "again" ∈ lw_tbl := List.mem_of_getElem? (i := 904) rfl
set_option maxRecDepth 100000 in
theorem ew_38 : Cond.stringRef RX11 369 "not so" ∈ lw_tbl := List.mem_of_getElem? (i := 665) rfl
set_option maxRecDepth 100000 in
theorem ew_39 : Cond.stringRef RX11 376 "no such one" ∈ lw_tbl := List.mem_of_getElem? (i := 1063) rfl
def nrw : List Cond := flatC (Cond.and given_1 narrow_1)
def swo (i : Nat) : Term := .string (ssT.getD i ("", 0, "")).1 (ssT.getD i ("", 0, "")).2.1
def swv (i : Nat) : Term := .field (swo i) "java/lang/String" "value" "[B"
def sws (i : Nat) : List Cond := [.exactly (swo i) "java/lang/String", .eq (.field (swo i) "java/lang/String" "coder" "B") (.int 0), .arrayOf (swv i) .byte, .eq (.length (swv i)) (.int (Int32.ofNat (slT.getD i 0)))] ++ (List.range (slT.getD i 0)).map (fun j => .eq (.elem (swv i) (.int (Int32.ofNat j))) (.int ((sbT.getD i []).getD j 0)))
theorem nr_of {big ws : List Cond} (i n : Nat) (h : ws = (big.drop i).take n) : ∀ w ∈ ws, w ∈ big := fun w hw => List.mem_of_mem_drop (List.mem_of_mem_take (by rw [← h]; exact hw))
set_option maxRecDepth 100000 in
theorem sws_0 : ∀ w ∈ sws 0, w ∈ nrw := nr_of 81 8 rfl
set_option maxRecDepth 100000 in
theorem sws_1 : ∀ w ∈ sws 1, w ∈ nrw := nr_of 90 9 rfl
set_option maxRecDepth 100000 in
theorem sws_2 : ∀ w ∈ sws 2, w ∈ nrw := nr_of 101 8 rfl
set_option maxRecDepth 100000 in
theorem sws_3 : ∀ w ∈ sws 3, w ∈ nrw := nr_of 112 8 rfl
set_option maxRecDepth 100000 in
theorem sws_4 : ∀ w ∈ sws 4, w ∈ nrw := nr_of 124 8 rfl
set_option maxRecDepth 100000 in
theorem sws_5 : ∀ w ∈ sws 5, w ∈ nrw := nr_of 137 9 rfl
set_option maxRecDepth 100000 in
theorem sws_6 : ∀ w ∈ sws 6, w ∈ nrw := nr_of 299 9 rfl
set_option maxRecDepth 100000 in
theorem sws_7 : ∀ w ∈ sws 7, w ∈ nrw := nr_of 323 8 rfl
set_option maxRecDepth 100000 in
theorem sws_8 : ∀ w ∈ sws 8, w ∈ nrw := nr_of 152 7 rfl
set_option maxRecDepth 100000 in
theorem sws_9 : ∀ w ∈ sws 9, w ∈ nrw := nr_of 166 9 rfl
set_option maxRecDepth 100000 in
theorem sws_10 : ∀ w ∈ sws 10, w ∈ nrw := nr_of 183 8 rfl
set_option maxRecDepth 100000 in
theorem sws_11 : ∀ w ∈ sws 11, w ∈ nrw := nr_of 200 8 rfl
set_option maxRecDepth 100000 in
theorem sws_12 : ∀ w ∈ sws 12, w ∈ nrw := nr_of 218 7 rfl
set_option maxRecDepth 100000 in
theorem sws_13 : ∀ w ∈ sws 13, w ∈ nrw := nr_of 236 8 rfl
set_option maxRecDepth 100000 in
theorem sws_14 : ∀ w ∈ sws 14, w ∈ nrw := nr_of 256 7 rfl
set_option maxRecDepth 100000 in
theorem sws_15 : ∀ w ∈ sws 15, w ∈ nrw := nr_of 276 9 rfl
set_option maxRecDepth 100000 in
theorem sws_16 : ∀ w ∈ sws 16, w ∈ nrw := nr_of 347 7 rfl
set_option maxRecDepth 100000 in
theorem sws_17 : ∀ w ∈ sws 17, w ∈ nrw := nr_of 371 8 rfl
set_option maxRecDepth 100000 in
theorem sws_18 : ∀ w ∈ sws 18, w ∈ nrw := nr_of 397 7 rfl
set_option maxRecDepth 100000 in
theorem sws_19 : ∀ w ∈ sws 19, w ∈ nrw := nr_of 423 8 rfl
set_option maxRecDepth 100000 in
theorem sws_20 : ∀ w ∈ sws 20, w ∈ nrw := nr_of 451 8 rfl
set_option maxRecDepth 100000 in
theorem sws_21 : ∀ w ∈ sws 21, w ∈ nrw := nr_of 480 7 rfl
set_option maxRecDepth 100000 in
theorem sws_22 : ∀ w ∈ sws 22, w ∈ nrw := nr_of 509 9 rfl
set_option maxRecDepth 100000 in
theorem sws_23 : ∀ w ∈ sws 23, w ∈ nrw := nr_of 71 10 rfl
set_option maxRecDepth 100000 in
theorem sws_24 : ∀ w ∈ sws 24, w ∈ nrw := nr_of 541 15 rfl
set_option maxRecDepth 100000 in
theorem nr_h : ∀ w ∈ [Cond.isRef (.static Bundle.tN "UNASSIGNED_STACK" Bundle.steD), .isRef (.static Bundle.tN "SUPPRESSED_SENTINEL" Bundle.listD), .eq (.static "java/lang/String" "COMPACT_STRINGS" "Z") (.int 1), .isRef (.static "jdk/internal/util/Preconditions" "SIOOBE_FORMATTER" "Ljava/util/function/BiFunction;")], w ∈ nrw := nr_of 4 4 rfl
set_option maxRecDepth 100000 in
theorem nr_c : Cond.not (.castable (excN 0) (excN 1)) ∈ nrw := List.mem_of_getElem? (i := 38) rfl
theorem sws_in (i : Nat) (hi : i < 25) : ∀ w ∈ sws i, w ∈ nrw := by
  rcases (show i = 0 ∨ i = 1 ∨ i = 2 ∨ i = 3 ∨ i = 4 ∨ i = 5 ∨ i = 6 ∨ i = 7 ∨ i = 8 ∨ i = 9 ∨ i = 10 ∨ i = 11 ∨ i = 12 ∨ i = 13 ∨ i = 14 ∨ i = 15 ∨ i = 16 ∨ i = 17 ∨ i = 18 ∨ i = 19 ∨ i = 20 ∨ i = 21 ∨ i = 22 ∨ i = 23 ∨ i = 24 by omega) with rfl | rfl | rfl | rfl | rfl | rfl | rfl | rfl | rfl | rfl | rfl | rfl | rfl | rfl | rfl | rfl | rfl | rfl | rfl | rfl | rfl | rfl | rfl | rfl | rfl
  · exact sws_0
  · exact sws_1
  · exact sws_2
  · exact sws_3
  · exact sws_4
  · exact sws_5
  · exact sws_6
  · exact sws_7
  · exact sws_8
  · exact sws_9
  · exact sws_10
  · exact sws_11
  · exact sws_12
  · exact sws_13
  · exact sws_14
  · exact sws_15
  · exact sws_16
  · exact sws_17
  · exact sws_18
  · exact sws_19
  · exact sws_20
  · exact sws_21
  · exact sws_22
  · exact sws_23
  · exact sws_24
