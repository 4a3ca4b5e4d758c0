/-! the check of the law itself -/
theorem cl_0 : cdL_0.all (chkE 288) = true := by decide +kernel
theorem cl_1 : cdL_1.all (chkE 288) = true := by decide +kernel
theorem cl_2 : cdL_2.all (chkE 288) = true := by decide +kernel
theorem cl_3 : cdL_3.all (chkE 288) = true := by decide +kernel
theorem cl_4 : cdL_4.all (chkE 288) = true := by decide +kernel
theorem cl_5 : cdL_5.all (chkE 288) = true := by decide +kernel
theorem cl_6 : cdL_6.all (chkE 288) = true := by decide +kernel
theorem cl_7 : cdL_7.all (chkE 288) = true := by decide +kernel
theorem cl_8 : cdL_8.all (chkE 288) = true := by decide +kernel
theorem cl_9 : cdL_9.all (chkE 288) = true := by decide +kernel
theorem cl_10 : cdL_10.all (chkE 288) = true := by decide +kernel
theorem cl_11 : cdL_11.all (chkE 288) = true := by decide +kernel
theorem cl_12 : cdL_12.all (chkE 288) = true := by decide +kernel
theorem cl_13 : cdL_13.all (chkE 288) = true := by decide +kernel
theorem cl_14 : cdL_14.all (chkE 288) = true := by decide +kernel
theorem cl_15 : cdL_15.all (chkE 288) = true := by decide +kernel
theorem cl_16 : cdL_16.all (chkE 288) = true := by decide +kernel
theorem cl_17 : cdL_17.all (chkE 288) = true := by decide +kernel
theorem cl_18 : cdL_18.all (chkE 288) = true := by decide +kernel
theorem cl_19 : cdL_19.all (chkE 288) = true := by decide +kernel
theorem cl_20 : cdL_20.all (chkE 288) = true := by decide +kernel
theorem cl_21 : cdL_21.all (chkE 288) = true := by decide +kernel
theorem cl_22 : cdL_22.all (chkE 288) = true := by decide +kernel
theorem cl_23 : cdL_23.all (chkE 288) = true := by decide +kernel
theorem cl_24 : cdL_24.all (chkE 288) = true := by decide +kernel
theorem cl_25 : cdL_25.all (chkE 288) = true := by decide +kernel
theorem cl_26 : cdL_26.all (chkE 288) = true := by decide +kernel
theorem cl_27 : cdL_27.all (chkE 288) = true := by decide +kernel
theorem cl_28 : cdL_28.all (chkE 288) = true := by decide +kernel
theorem cl_29 : cdL_29.all (chkE 288) = true := by decide +kernel
theorem cl_30 : cdL_30.all (chkE 288) = true := by decide +kernel
theorem cl_31 : cdL_31.all (chkE 288) = true := by decide +kernel
theorem cl_32 : cdL_32.all (chkE 288) = true := by decide +kernel
theorem cl_33 : cdL_33.all (chkE 288) = true := by decide +kernel
theorem cl_34 : cdL_34.all (chkE 288) = true := by decide +kernel
theorem cl_35 : cdL_35.all (chkE 288) = true := by decide +kernel
theorem cl_36 : cdL_36.all (chkE 288) = true := by decide +kernel
theorem cl_37 : cdL_37.all (chkE 288) = true := by decide +kernel
theorem ap_all {α : Type} {f : α → Bool} {a b : List α} (h1 : a.all f = true) (h2 : b.all f = true) : (a ++ b).all f = true := by rw [List.all_append, h1, h2]; rfl
theorem ck_288 : cdT_288.all (chkE 288) = true := ap_all cl_0 (ap_all cl_1 (ap_all cl_2 (ap_all cl_3 (ap_all cl_4 (ap_all cl_5 (ap_all cl_6 (ap_all cl_7 (ap_all cl_8 (ap_all cl_9 (ap_all cl_10 (ap_all cl_11 (ap_all cl_12 (ap_all cl_13 (ap_all cl_14 (ap_all cl_15 (ap_all cl_16 (ap_all cl_17 (ap_all cl_18 (ap_all cl_19 (ap_all cl_20 (ap_all cl_21 (ap_all cl_22 (ap_all cl_23 (ap_all cl_24 (ap_all cl_25 (ap_all cl_26 (ap_all cl_27 (ap_all cl_28 (ap_all cl_29 (ap_all cl_30 (ap_all cl_31 (ap_all cl_32 (ap_all cl_33 (ap_all cl_34 (ap_all cl_35 (ap_all cl_36 (cl_37)))))))))))))))))))))))))))))))))))))
set_option maxRecDepth 100000 in
theorem pl_288 : ∀ w ∈ (cdT_288.filter (fun e => Nat.beq (lkk 288 e.2) 1)).map (fun e => lkW 288 e.2), w ∈ bw := gr_of [580, 581, 582, 583, 584, 585, 586, 587, 588, 589, 590, 588, 591, 592, 588, 593, 594, 588, 595, 596, 597, 598, 599, 600, 588, 601, 602, 588, 603, 604, 588, 605, 606, 588, 607, 608, 588, 609, 610, 588, 611, 612, 588, 613, 614, 588, 615, 616, 588, 617, 618, 588, 619, 620, 588, 621, 622, 588, 623, 624, 588, 625, 626, 588, 627, 628, 588, 629, 630, 631, 632, 588, 633, 634, 588, 635, 636, 588, 637, 638, 588, 639, 640, 588, 641, 642, 588, 643, 644, 588, 645, 646, 588, 647, 648, 649, 650, 588, 651, 652, 588, 653, 654, 655, 656, 657, 658, 659, 660] rfl
set_option maxRecDepth 100000 in
theorem ns_288 : ∀ w ∈ (cdT_288.filter (fun e => Nat.beq (lkk 288 e.2) 2)).map (fun e => lkW 288 e.2), w ∈ nw := gr_of [] rfl
