/-! the library's own methods on the String constants: length, charAt -/
def jw : List Cond := [Cond.methodLink RX10 62 yJ0_length_8abf5, Cond.methodLink RX10 67 yJ0_charAt_5068e, Cond.instanceMethod yJ0_length_8abf5, Cond.selects RJ0 yJ0_length_8abf5 yJ0_length_8abf5, Cond.instanceMethod yJ0_coder_7d493, Cond.selects RJ0 yJ0_coder_7d493 yJ0_coder_7d493, Cond.instanceMethod yJ0_charAt_5068e, Cond.selects RJ0 yJ0_charAt_5068e yJ0_charAt_5068e, Cond.instanceMethod yJ0_isLatin1_aae02, Cond.selects RJ0 yJ0_isLatin1_aae02 yJ0_isLatin1_aae02, Cond.static yJ0_checkIndex_df160, Cond.static yJ1_charAt_3b067, Cond.static yJ3_checkIndex_8e157, Cond.code yJ0_length_8abf5 cJ0_length_8abf5 1 (some .int), Cond.code yJ0_coder_7d493 cJ0_coder_7d493 1 (some .byte), Cond.code yJ0_charAt_5068e cJ0_charAt_5068e 2 (some .char), Cond.code yJ0_isLatin1_aae02 cJ0_isLatin1_aae02 1 (some .boolean), Cond.code yJ0_checkIndex_df160 cJ0_checkIndex_df160 2 none, Cond.code yJ1_charAt_3b067 cJ1_charAt_3b067 2 (some .char), Cond.code yJ3_checkIndex_8e157 cJ3_checkIndex_8e157 3 (some .int), Cond.initialized RJ0, Cond.initialized RJ1, Cond.initialized RJ3, Cond.fieldLink RJ0 9 "java/lang/String" "value" "[B", Cond.fieldLink RJ0 15 "java/lang/String" "coder" "B", Cond.fieldLink RJ0 38 "java/lang/String" "COMPACT_STRINGS" "Z", Cond.fieldLink RJ0 1053 "jdk/internal/util/Preconditions" "SIOOBE_FORMATTER" "Ljava/util/function/BiFunction;", Cond.methodLink RJ0 335 yJ0_coder_7d493, Cond.methodLink RJ0 492 yJ0_isLatin1_aae02, Cond.methodLink RJ0 495 yJ1_charAt_3b067, Cond.methodLink RJ1 9 yJ0_checkIndex_df160, Cond.methodLink RJ0 1059 yJ3_checkIndex_8e157, Cond.classLink RL 13 "java/lang/IllegalArgumentException", Cond.classLink RL 31 "java/util/NoSuchElementException"]
set_option maxRecDepth 100000 in
theorem jw_in : ∀ w ∈ jw, w ∈ lw_tbl := gr_of [723, 733, 724, 725, 728, 729, 734, 735, 738, 739, 745, 742, 750, 726, 730, 736, 740, 746, 743, 751, 109, 110, 111, 1966, 1967, 731, 747, 727, 737, 741, 744, 749, 609, 1041] rfl
theorem jw_ok : GoodIn lw_tbl jw := goodIn_sub jw_in (by decide +kernel)
theorem jw_gd : GoodIn jw jw := goodIn_sub (fun _ h => h) (by decide +kernel)
theorem jw_0 : Cond.methodLink RX10 62 yJ0_length_8abf5 ∈ jw := List.mem_of_getElem? (i := 0) rfl
theorem jw_1 : Cond.methodLink RX10 67 yJ0_charAt_5068e ∈ jw := List.mem_of_getElem? (i := 1) rfl
theorem jw_2 : Cond.instanceMethod yJ0_length_8abf5 ∈ jw := List.mem_of_getElem? (i := 2) rfl
theorem jw_3 : Cond.selects RJ0 yJ0_length_8abf5 yJ0_length_8abf5 ∈ jw := List.mem_of_getElem? (i := 3) rfl
theorem jw_4 : Cond.instanceMethod yJ0_coder_7d493 ∈ jw := List.mem_of_getElem? (i := 4) rfl
theorem jw_5 : Cond.selects RJ0 yJ0_coder_7d493 yJ0_coder_7d493 ∈ jw := List.mem_of_getElem? (i := 5) rfl
theorem jw_6 : Cond.instanceMethod yJ0_charAt_5068e ∈ jw := List.mem_of_getElem? (i := 6) rfl
theorem jw_7 : Cond.selects RJ0 yJ0_charAt_5068e yJ0_charAt_5068e ∈ jw := List.mem_of_getElem? (i := 7) rfl
theorem jw_8 : Cond.instanceMethod yJ0_isLatin1_aae02 ∈ jw := List.mem_of_getElem? (i := 8) rfl
theorem jw_9 : Cond.selects RJ0 yJ0_isLatin1_aae02 yJ0_isLatin1_aae02 ∈ jw := List.mem_of_getElem? (i := 9) rfl
theorem jw_10 : Cond.static yJ0_checkIndex_df160 ∈ jw := List.mem_of_getElem? (i := 10) rfl
theorem jw_11 : Cond.static yJ1_charAt_3b067 ∈ jw := List.mem_of_getElem? (i := 11) rfl
theorem jw_12 : Cond.static yJ3_checkIndex_8e157 ∈ jw := List.mem_of_getElem? (i := 12) rfl
theorem jw_13 : Cond.code yJ0_length_8abf5 cJ0_length_8abf5 1 (some .int) ∈ jw := List.mem_of_getElem? (i := 13) rfl
theorem jw_14 : Cond.code yJ0_coder_7d493 cJ0_coder_7d493 1 (some .byte) ∈ jw := List.mem_of_getElem? (i := 14) rfl
theorem jw_15 : Cond.code yJ0_charAt_5068e cJ0_charAt_5068e 2 (some .char) ∈ jw := List.mem_of_getElem? (i := 15) rfl
theorem jw_16 : Cond.code yJ0_isLatin1_aae02 cJ0_isLatin1_aae02 1 (some .boolean) ∈ jw := List.mem_of_getElem? (i := 16) rfl
theorem jw_17 : Cond.code yJ0_checkIndex_df160 cJ0_checkIndex_df160 2 none ∈ jw := List.mem_of_getElem? (i := 17) rfl
theorem jw_18 : Cond.code yJ1_charAt_3b067 cJ1_charAt_3b067 2 (some .char) ∈ jw := List.mem_of_getElem? (i := 18) rfl
theorem jw_19 : Cond.code yJ3_checkIndex_8e157 cJ3_checkIndex_8e157 3 (some .int) ∈ jw := List.mem_of_getElem? (i := 19) rfl
theorem jw_20 : Cond.initialized RJ0 ∈ jw := List.mem_of_getElem? (i := 20) rfl
theorem jw_21 : Cond.initialized RJ1 ∈ jw := List.mem_of_getElem? (i := 21) rfl
theorem jw_22 : Cond.initialized RJ3 ∈ jw := List.mem_of_getElem? (i := 22) rfl
theorem jw_23 : Cond.fieldLink RJ0 9 "java/lang/String" "value" "[B" ∈ jw := List.mem_of_getElem? (i := 23) rfl
theorem jw_24 : Cond.fieldLink RJ0 15 "java/lang/String" "coder" "B" ∈ jw := List.mem_of_getElem? (i := 24) rfl
theorem jw_25 : Cond.fieldLink RJ0 38 "java/lang/String" "COMPACT_STRINGS" "Z" ∈ jw := List.mem_of_getElem? (i := 25) rfl
theorem jw_26 : Cond.fieldLink RJ0 1053 "jdk/internal/util/Preconditions" "SIOOBE_FORMATTER" "Ljava/util/function/BiFunction;" ∈ jw := List.mem_of_getElem? (i := 26) rfl
theorem jw_27 : Cond.methodLink RJ0 335 yJ0_coder_7d493 ∈ jw := List.mem_of_getElem? (i := 27) rfl
theorem jw_28 : Cond.methodLink RJ0 492 yJ0_isLatin1_aae02 ∈ jw := List.mem_of_getElem? (i := 28) rfl
theorem jw_29 : Cond.methodLink RJ0 495 yJ1_charAt_3b067 ∈ jw := List.mem_of_getElem? (i := 29) rfl
theorem jw_30 : Cond.methodLink RJ1 9 yJ0_checkIndex_df160 ∈ jw := List.mem_of_getElem? (i := 30) rfl
theorem jw_31 : Cond.methodLink RJ0 1059 yJ3_checkIndex_8e157 ∈ jw := List.mem_of_getElem? (i := 31) rfl
theorem jw_32 : Cond.classLink RL 13 "java/lang/IllegalArgumentException" ∈ jw := List.mem_of_getElem? (i := 32) rfl
theorem jw_33 : Cond.classLink RL 31 "java/util/NoSuchElementException" ∈ jw := List.mem_of_getElem? (i := 33) rfl
theorem dj_len_0 : decode cJ0_length_8abf5 0 = .ok (.aload_n 0, 1) := by decide +kernel
theorem dj_len_1 : decode cJ0_length_8abf5 1 = .ok (.getfield 9, 3) := by decide +kernel
theorem dj_len_4 : decode cJ0_length_8abf5 4 = .ok (.arraylength, 1) := by decide +kernel
theorem dj_len_5 : decode cJ0_length_8abf5 5 = .ok (.aload_n 0, 1) := by decide +kernel
theorem dj_len_6 : decode cJ0_length_8abf5 6 = .ok (.invokevirtual 335, 3) := by decide +kernel
theorem dj_len_9 : decode cJ0_length_8abf5 9 = .ok (.ishr, 1) := by decide +kernel
theorem dj_len_10 : decode cJ0_length_8abf5 10 = .ok (.ireturn, 1) := by decide +kernel
theorem dj_cod_0 : decode cJ0_coder_7d493 0 = .ok (.getstatic 38, 3) := by decide +kernel
theorem dj_cod_3 : decode cJ0_coder_7d493 3 = .ok (.ifCond .eq 10, 3) := by decide +kernel
theorem dj_cod_6 : decode cJ0_coder_7d493 6 = .ok (.aload_n 0, 1) := by decide +kernel
theorem dj_cod_7 : decode cJ0_coder_7d493 7 = .ok (.getfield 15, 3) := by decide +kernel
theorem dj_cod_10 : decode cJ0_coder_7d493 10 = .ok (.goto 4, 3) := by decide +kernel
theorem dj_cod_13 : decode cJ0_coder_7d493 13 = .ok (.iconst 1, 1) := by decide +kernel
theorem dj_cod_14 : decode cJ0_coder_7d493 14 = .ok (.ireturn, 1) := by decide +kernel
theorem dj_chr_0 : decode cJ0_charAt_5068e 0 = .ok (.aload_n 0, 1) := by decide +kernel
theorem dj_chr_1 : decode cJ0_charAt_5068e 1 = .ok (.invokevirtual 492, 3) := by decide +kernel
theorem dj_chr_4 : decode cJ0_charAt_5068e 4 = .ok (.ifCond .eq 12, 3) := by decide +kernel
theorem dj_chr_7 : decode cJ0_charAt_5068e 7 = .ok (.aload_n 0, 1) := by decide +kernel
theorem dj_chr_8 : decode cJ0_charAt_5068e 8 = .ok (.getfield 9, 3) := by decide +kernel
theorem dj_chr_11 : decode cJ0_charAt_5068e 11 = .ok (.iload_n 1, 1) := by decide +kernel
theorem dj_chr_12 : decode cJ0_charAt_5068e 12 = .ok (.invokestatic 495, 3) := by decide +kernel
theorem dj_chr_15 : decode cJ0_charAt_5068e 15 = .ok (.ireturn, 1) := by decide +kernel
theorem dj_chr_16 : decode cJ0_charAt_5068e 16 = .ok (.aload_n 0, 1) := by decide +kernel
theorem dj_chr_17 : decode cJ0_charAt_5068e 17 = .ok (.getfield 9, 3) := by decide +kernel
theorem dj_chr_20 : decode cJ0_charAt_5068e 20 = .ok (.iload_n 1, 1) := by decide +kernel
theorem dj_chr_21 : decode cJ0_charAt_5068e 21 = .ok (.invokestatic 498, 3) := by decide +kernel
theorem dj_chr_24 : decode cJ0_charAt_5068e 24 = .ok (.ireturn, 1) := by decide +kernel
theorem dj_lat_0 : decode cJ0_isLatin1_aae02 0 = .ok (.getstatic 38, 3) := by decide +kernel
theorem dj_lat_3 : decode cJ0_isLatin1_aae02 3 = .ok (.ifCond .eq 14, 3) := by decide +kernel
theorem dj_lat_6 : decode cJ0_isLatin1_aae02 6 = .ok (.aload_n 0, 1) := by decide +kernel
theorem dj_lat_7 : decode cJ0_isLatin1_aae02 7 = .ok (.getfield 15, 3) := by decide +kernel
theorem dj_lat_10 : decode cJ0_isLatin1_aae02 10 = .ok (.ifCond .ne 7, 3) := by decide +kernel
theorem dj_lat_13 : decode cJ0_isLatin1_aae02 13 = .ok (.iconst 1, 1) := by decide +kernel
theorem dj_lat_14 : decode cJ0_isLatin1_aae02 14 = .ok (.goto 4, 3) := by decide +kernel
theorem dj_lat_17 : decode cJ0_isLatin1_aae02 17 = .ok (.iconst 0, 1) := by decide +kernel
theorem dj_lat_18 : decode cJ0_isLatin1_aae02 18 = .ok (.ireturn, 1) := by decide +kernel
theorem dj_chk_0 : decode cJ0_checkIndex_df160 0 = .ok (.iload_n 0, 1) := by decide +kernel
theorem dj_chk_1 : decode cJ0_checkIndex_df160 1 = .ok (.iload_n 1, 1) := by decide +kernel
theorem dj_chk_2 : decode cJ0_checkIndex_df160 2 = .ok (.getstatic 1053, 3) := by decide +kernel
theorem dj_chk_5 : decode cJ0_checkIndex_df160 5 = .ok (.invokestatic 1059, 3) := by decide +kernel
theorem dj_chk_8 : decode cJ0_checkIndex_df160 8 = .ok (.pop, 1) := by decide +kernel
theorem dj_chk_9 : decode cJ0_checkIndex_df160 9 = .ok (.return_, 1) := by decide +kernel
theorem dj_c1_0 : decode cJ1_charAt_3b067 0 = .ok (.iload_n 1, 1) := by decide +kernel
theorem dj_c1_1 : decode cJ1_charAt_3b067 1 = .ok (.aload_n 0, 1) := by decide +kernel
theorem dj_c1_2 : decode cJ1_charAt_3b067 2 = .ok (.arraylength, 1) := by decide +kernel
theorem dj_c1_3 : decode cJ1_charAt_3b067 3 = .ok (.invokestatic 9, 3) := by decide +kernel
theorem dj_c1_6 : decode cJ1_charAt_3b067 6 = .ok (.aload_n 0, 1) := by decide +kernel
theorem dj_c1_7 : decode cJ1_charAt_3b067 7 = .ok (.iload_n 1, 1) := by decide +kernel
theorem dj_c1_8 : decode cJ1_charAt_3b067 8 = .ok (.baload, 1) := by decide +kernel
theorem dj_c1_9 : decode cJ1_charAt_3b067 9 = .ok (.sipush 255, 3) := by decide +kernel
theorem dj_c1_12 : decode cJ1_charAt_3b067 12 = .ok (.iand, 1) := by decide +kernel
theorem dj_c1_13 : decode cJ1_charAt_3b067 13 = .ok (.i2c, 1) := by decide +kernel
theorem dj_c1_14 : decode cJ1_charAt_3b067 14 = .ok (.ireturn, 1) := by decide +kernel
theorem dj_pre_0 : decode cJ3_checkIndex_8e157 0 = .ok (.iload_n 0, 1) := by decide +kernel
theorem dj_pre_1 : decode cJ3_checkIndex_8e157 1 = .ok (.ifCond .lt 8, 3) := by decide +kernel
theorem dj_pre_4 : decode cJ3_checkIndex_8e157 4 = .ok (.iload_n 0, 1) := by decide +kernel
theorem dj_pre_5 : decode cJ3_checkIndex_8e157 5 = .ok (.iload_n 1, 1) := by decide +kernel
theorem dj_pre_6 : decode cJ3_checkIndex_8e157 6 = .ok (.if_icmp .lt 10, 3) := by decide +kernel
theorem dj_pre_9 : decode cJ3_checkIndex_8e157 9 = .ok (.aload_n 2, 1) := by decide +kernel
theorem dj_pre_10 : decode cJ3_checkIndex_8e157 10 = .ok (.iload_n 0, 1) := by decide +kernel
theorem dj_pre_11 : decode cJ3_checkIndex_8e157 11 = .ok (.iload_n 1, 1) := by decide +kernel
theorem dj_pre_12 : decode cJ3_checkIndex_8e157 12 = .ok (.invokestatic 95, 3) := by decide +kernel
theorem dj_pre_15 : decode cJ3_checkIndex_8e157 15 = .ok (.athrow, 1) := by decide +kernel
theorem dj_pre_16 : decode cJ3_checkIndex_8e157 16 = .ok (.iload_n 0, 1) := by decide +kernel
theorem dj_pre_17 : decode cJ3_checkIndex_8e157 17 = .ok (.ireturn, 1) := by decide +kernel
theorem STx.blind {ρ : Nat → Nat} {A : Nat → Prop} {U : State} {g : JFrame} {mk : MethodId} {a : Array Value} (h : STx ρ A U U.heap) : STx ρ A (U.calling g mk a) (U.calling g mk a).heap := by
  obtain ⟨⟨adV, h4⟩, h5, h6⟩ := h
  have hv : U.vm.Alike (U.calling g mk a).vm := Vm.Alike.refl U.vm
  exact ⟨⟨adV, vz_S.moved (u := U) (U := U.calling g mk a) hv h4⟩, va_Z.moved (u := U) (U := U.calling g mk a) hv h5, va_Zq.moved (u := U) (U := U.calling g mk a) hv h6⟩
theorem STx.call {ρ : Nat → Nat} {A : Nat → Prop} {s U : State} {H : Heap} {locs : List Loc} (h : STx ρ A s s.heap) (hS : va_S A s.heap H locs) (hW : s.WarmedH U.vm) (hU : U.heap = H) : STx ρ A U U.heap := by
  obtain ⟨⟨adV, h4⟩, h5, h6⟩ := h
  rw [hU]
  have hv := hW.alike
  exact ⟨⟨adV, (vz_S.moved hv h4).kept hS.2.1⟩, (va_Z.moved hv h5).kept hS.2.1, (va_Zq.moved hv h6).kept hS.2.1⟩
def QcNone : Array Value → State → Outcome → State → Prop := fun _ st o t => o = .returned none ∧ t.heap = st.heap
section JC
variable {p : Program} {l : Launch} {e : Env} {R : Room} {s : State} {m : MethodId} {args : Array Value} {below : List Frame} {meth : Method} {c : Code} {H : Heap} {locs : List Loc} {cells slots : Nat} {Q : State → Prop} {g : JFrame} {rest : List Value} {a : Array Value}
theorem callN (hr : CallRun p l e R s m args below meth c H locs cells slots 0 0 g rest (QcNone a) (fun _ => False)) (kk : W p l e R s m args below meth c H locs cells slots Q { g with pc := g.pc + 3, stack := rest }) : W p l e R s m args below meth c H locs cells slots Q g := by
  intro T hT X
  obtain ⟨v, st₀, t, T', L, h0, X', hL, e1, ⟨hv, hh⟩, st⟩ := hr T hT X
  cases hv
  obtain ⟨t2, a1, b1⟩ := kk T' (by rw [e1, hh, h0]) (Stand.forget X' (fun q h => (hL q h).elim))
  exact ⟨t2, st t2 a1, b1⟩
end JC
set_option maxHeartbeats 4000000 in
theorem cj_cod (l : Launch) (ρ : Nat → Nat) (A : Nat → Prop) (i : Nat) (hi : i < 25) : Met l yJ0_coder_7d493 (.code yJ0_coder_7d493 cJ0_coder_7d493 1 (some .byte) :: jw) ({ frames := 0, cells := 0, slots := 0, locals := 0 }) (va_Pc [.ref (ρ (i + 2))] (fun U => STx ρ A U U.heap)) (QcRead 0) 0 0 (fun _ => False) := by
  refine Met.ofW (cc := cJ0_coder_7d493) (maxL := 1) (ret := (some .byte)) (by decide) rfl ?_
  intro p e s m args below meth c s₁ B hml hv
  obtain ⟨rfl, hST⟩ := hv
  have hx := B.exec
  have hb := B.bytes
  have hr := B.returns
  have hts := atoms_spec (ws := (.code yJ0_coder_7d493 cJ0_coder_7d493 1 (some .byte) :: jw)) B.pre
  have hown : s.vm.findClass RJ0 = some m.cls := findClass_of_methodNamed B.named
  have hlocks := B.notSynchronized
  have hl := lv_entry ([.ref (ρ (i + 2))]) (n := 1) (Nat.le_of_ble_eq_true rfl)
  rw [lg_entry_eq]
  generalize (lg_sl ([.ref (ρ (i + 2))]) ++ List.replicate (1 - (lg_sl ([.ref (ρ (i + 2))])).length) Slot.unset).toArray = ls at hl ⊢
  have hl : lv_has ls 1 [(0, .ref (ρ (i + 2)))] := hl
  have hS : va_S A s.heap s.heap [] := va_S.rf
  obtain ⟨⟨adV, hE⟩, hC, hF9⟩ := hST
  obtain ⟨hO, hOc, hOv, hT⟩ := vz_get hE hi
  refine va_gets (C := "java/lang/String") (n := "COMPACT_STRINGS") (d := "Z") (ref := "java/lang/String") hx hb hC hS hown (hts _ (List.mem_cons_of_mem _ jw_25)) (fun _ h9 => h9) dj_cod_0 ?_
  refine lv_if_eq hx hb dj_cod_3 (tgt := 13) (by decide) (fun h9 => absurd h9 (by decide)) (fun _ => ?_)
  refine lv_aload_n hx hb dj_cod_6 rfl (lv_at hl 0 rfl) ?_
  refine vk_getf (ref := "java/lang/String") hx hb hOc hS hown (hts _ (List.mem_cons_of_mem _ jw_24)) (fun _ h9 => h9) dj_cod_7 ?_
  refine lv_goto hx hb dj_cod_10 (tgt := 14) (by decide) ?_
  exact W.zret (v := 0) (ty := .byte) hx hb hr rfl (fun t ht _ => ⟨rfl, ht⟩) (fun _ h => nomatch h) dj_cod_14
set_option maxHeartbeats 4000000 in
theorem cj_lat (l : Launch) (ρ : Nat → Nat) (A : Nat → Prop) (i : Nat) (hi : i < 25) : Met l yJ0_isLatin1_aae02 (.code yJ0_isLatin1_aae02 cJ0_isLatin1_aae02 1 (some .boolean) :: jw) ({ frames := 0, cells := 0, slots := 0, locals := 0 }) (va_Pc [.ref (ρ (i + 2))] (fun U => STx ρ A U U.heap)) (QcRead 1) 0 0 (fun _ => False) := by
  refine Met.ofW (cc := cJ0_isLatin1_aae02) (maxL := 1) (ret := (some .boolean)) (by decide) rfl ?_
  intro p e s m args below meth c s₁ B hml hv
  obtain ⟨rfl, hST⟩ := hv
  have hx := B.exec
  have hb := B.bytes
  have hr := B.returns
  have hts := atoms_spec (ws := (.code yJ0_isLatin1_aae02 cJ0_isLatin1_aae02 1 (some .boolean) :: jw)) B.pre
  have hown : s.vm.findClass RJ0 = some m.cls := findClass_of_methodNamed B.named
  have hlocks := B.notSynchronized
  have hl := lv_entry ([.ref (ρ (i + 2))]) (n := 1) (Nat.le_of_ble_eq_true rfl)
  rw [lg_entry_eq]
  generalize (lg_sl ([.ref (ρ (i + 2))]) ++ List.replicate (1 - (lg_sl ([.ref (ρ (i + 2))])).length) Slot.unset).toArray = ls at hl ⊢
  have hl : lv_has ls 1 [(0, .ref (ρ (i + 2)))] := hl
  have hS : va_S A s.heap s.heap [] := va_S.rf
  obtain ⟨⟨adV, hE⟩, hC, hF9⟩ := hST
  obtain ⟨hO, hOc, hOv, hT⟩ := vz_get hE hi
  refine va_gets (C := "java/lang/String") (n := "COMPACT_STRINGS") (d := "Z") (ref := "java/lang/String") hx hb hC hS hown (hts _ (List.mem_cons_of_mem _ jw_25)) (fun _ h9 => h9) dj_lat_0 ?_
  refine lv_if_eq hx hb dj_lat_3 (tgt := 17) (by decide) (fun h9 => absurd h9 (by decide)) (fun _ => ?_)
  refine lv_aload_n hx hb dj_lat_6 rfl (lv_at hl 0 rfl) ?_
  refine vk_getf (ref := "java/lang/String") hx hb hOc hS hown (hts _ (List.mem_cons_of_mem _ jw_24)) (fun _ h9 => h9) dj_lat_7 ?_
  refine lv_if_ne hx hb dj_lat_10 (tgt := 17) (by decide) (fun h9 => absurd rfl h9) (fun _ => ?_)
  refine lv_iconst (v := 1) hx hb dj_lat_13 (by decide) ?_
  refine lv_goto hx hb dj_lat_14 (tgt := 18) (by decide) ?_
  exact W.zret (v := 1) (ty := .boolean) hx hb hr rfl (fun t ht _ => ⟨rfl, ht⟩) (fun _ h => nomatch h) dj_lat_18
set_option maxHeartbeats 4000000 in
theorem cj_len (l : Launch) (ρ : Nat → Nat) (A : Nat → Prop) (i : Nat) (hi : i < 25) : Met l yJ0_length_8abf5 (.code yJ0_length_8abf5 cJ0_length_8abf5 1 (some .int) :: jw) ({ frames := 1, cells := 0, slots := 0, locals := 30 }) (va_Pc [.ref (ρ (i + 2))] (fun U => STx ρ A U U.heap)) (QcRead (Int32.ofNat (slT.getD i 0))) 0 0 (fun _ => False) := by
  refine Met.ofW (cc := cJ0_length_8abf5) (maxL := 1) (ret := (some .int)) (by decide) rfl ?_
  intro p e s m args below meth c s₁ B hml hv
  obtain ⟨rfl, hST⟩ := hv
  have hx := B.exec
  have hb := B.bytes
  have hr := B.returns
  have hts := atoms_spec (ws := (.code yJ0_length_8abf5 cJ0_length_8abf5 1 (some .int) :: jw)) B.pre
  have hown : s.vm.findClass RJ0 = some m.cls := findClass_of_methodNamed B.named
  have hlocks := B.notSynchronized
  have hl := lv_entry ([.ref (ρ (i + 2))]) (n := 1) (Nat.le_of_ble_eq_true rfl)
  rw [lg_entry_eq]
  generalize (lg_sl ([.ref (ρ (i + 2))]) ++ List.replicate (1 - (lg_sl ([.ref (ρ (i + 2))])).length) Slot.unset).toArray = ls at hl ⊢
  have hl : lv_has ls 1 [(0, .ref (ρ (i + 2)))] := hl
  have hS : va_S A s.heap s.heap [] := va_S.rf
  obtain ⟨⟨adV, hE⟩, hC, hF9⟩ := id hST
  obtain ⟨hO, hOc, hOv, hT⟩ := vz_get hE hi
  refine lv_aload_n hx hb dj_len_0 rfl (lv_at hl 0 rfl) ?_
  refine vk_getf (ref := "java/lang/String") hx hb hOv hS hown (hts _ (List.mem_cons_of_mem _ jw_23)) (fun _ h9 => h9) dj_len_1 ?_
  refine va_tlen hx hb hT hS rfl dj_len_4 ?_
  refine lv_aload_n hx hb dj_len_5 rfl (lv_at hl 0 rfl) ?_
  refine W.callR (W.runV (As := []) (rest := [.int (Int32.ofNat (slT.getD i 0))]) ⟨hx, hb, hml, hown, hts⟩ (cj_cod l ρ A i hi) (cwV 0 hts (fun w hw => by
      have h9 : w ∈ jw := by
        simp only [wsV, List.mem_append, List.mem_cons, List.not_mem_nil, or_false] at hw
        rcases hw with (rfl | rfl | rfl | rfl) | rfl | hw
        · exact jw_27
        · exact jw_4
        · exact jw_5
        · exact jw_20
        · exact jw_14
        · exact hw
      exact ⟨List.mem_cons_of_mem _ h9, (jw_gd w h9).2⟩) rfl rfl rfl ⟨rfl, by decide, by decide, by decide +kernel⟩ ⟨Nat.le_of_ble_eq_true rfl, Nat.le_of_ble_eq_true rfl⟩) ⟨fun a U g mk q => ⟨q.1, STx.blind q.2⟩, vz_recv hE hi hS, fun U hU hW => ⟨rfl, STx.call hST hS hW hU⟩⟩ rfl rfl hl.1 rfl (lv_room (Nat.le_of_ble_eq_true rfl)) dj_len_6 ⟨Nat.zero_le _, Nat.zero_le _⟩) ?_
  refine lv_ishr hx hb dj_len_9 ?_
  have h9 : (Int32.ofNat (slT.getD i 0)) >>> ((0 : Int32) &&& 31) = Int32.ofNat (slT.getD i 0) := by
    have h8 : ∀ i, i < 25 → (Int32.ofNat (slT.getD i 0)) >>> ((0 : Int32) &&& 31) = Int32.ofNat (slT.getD i 0) := by decide +kernel
    exact h8 i hi
  rw [h9]
  exact W.iret hx hb hr (fun t ht _ => ⟨rfl, ht⟩) (fun _ h => nomatch h) dj_len_10
set_option maxHeartbeats 4000000 in
theorem cj_pre (l : Launch) (i n : Int32) (v : Value) (hv9 : v = .null ∨ ∃ q, v = .ref q) (h0 : ¬ i < 0) (h1 : i < n) : Met l yJ3_checkIndex_8e157 (.code yJ3_checkIndex_8e157 cJ3_checkIndex_8e157 3 (some .int) :: jw) ({ frames := 0, cells := 0, slots := 0, locals := 0 }) (va_Pc [.int i, .int n, v] (fun U => True)) (QcRead i) 0 0 (fun _ => False) := by
  refine Met.ofW (cc := cJ3_checkIndex_8e157) (maxL := 3) (ret := (some .int)) (by decide) rfl ?_
  intro p e s m args below meth c s₁ B hml hv
  obtain ⟨rfl, hST⟩ := hv
  have hx := B.exec
  have hb := B.bytes
  have hr := B.returns
  have hts := atoms_spec (ws := (.code yJ3_checkIndex_8e157 cJ3_checkIndex_8e157 3 (some .int) :: jw)) B.pre
  have hown : s.vm.findClass RJ3 = some m.cls := findClass_of_methodNamed B.named
  have hlocks := B.notSynchronized
  have hl := lv_entry ([.int i, .int n, v]) (n := 3) (by rcases hv9 with rfl | ⟨q, rfl⟩ <;> exact Nat.le_of_ble_eq_true rfl)
  rw [lg_entry_eq]
  generalize (lg_sl ([.int i, .int n, v]) ++ List.replicate (3 - (lg_sl ([.int i, .int n, v])).length) Slot.unset).toArray = ls at hl ⊢
  have hl : lv_has ls 3 [(0, .int i), (1, .int n)] := lv_sub hl [0, 1] (by rcases hv9 with rfl | ⟨q, rfl⟩ <;> rfl)
  refine lv_iload_n hx hb dj_pre_0 rfl (lv_at hl 0 rfl) ?_
  refine lv_if_lt hx hb dj_pre_1 (tgt := 9) (by decide) (fun h9 => absurd h9 h0) (fun _ => ?_)
  refine lv_iload_n hx hb dj_pre_4 rfl (lv_at hl 0 rfl) ?_
  refine lv_iload_n hx hb dj_pre_5 rfl (lv_at hl 1 rfl) ?_
  refine lv_icmp_lt hx hb dj_pre_6 (tgt := 16) (by decide) (fun _ => ?_) (fun h9 => absurd h1 h9)
  refine lv_iload_n hx hb dj_pre_16 rfl (lv_at hl 0 rfl) ?_
  exact W.iret hx hb hr (fun t ht _ => ⟨rfl, ht⟩) (fun _ h => nomatch h) dj_pre_17
set_option maxHeartbeats 4000000 in
theorem cj_chk (l : Launch) (ρ : Nat → Nat) (A : Nat → Prop) (i n : Int32) (h0 : ¬ i < 0) (h1 : i < n) : Met l yJ0_checkIndex_df160 (.code yJ0_checkIndex_df160 cJ0_checkIndex_df160 2 none :: jw) ({ frames := 1, cells := 0, slots := 0, locals := 30 }) (va_Pc [.int i, .int n] (fun U => STx ρ A U U.heap)) (QcNone) 0 0 (fun _ => False) := by
  refine Met.ofW (cc := cJ0_checkIndex_df160) (maxL := 2) (ret := none) (by decide) rfl ?_
  intro p e s m args below meth c s₁ B hml hv
  obtain ⟨rfl, hST⟩ := hv
  have hx := B.exec
  have hb := B.bytes
  have hr := B.returns
  have hts := atoms_spec (ws := (.code yJ0_checkIndex_df160 cJ0_checkIndex_df160 2 none :: jw)) B.pre
  have hown : s.vm.findClass RJ0 = some m.cls := findClass_of_methodNamed B.named
  have hlocks := B.notSynchronized
  have hl := lv_entry ([.int i, .int n]) (n := 2) (Nat.le_of_ble_eq_true rfl)
  rw [lg_entry_eq]
  generalize (lg_sl ([.int i, .int n]) ++ List.replicate (2 - (lg_sl ([.int i, .int n])).length) Slot.unset).toArray = ls at hl ⊢
  have hl : lv_has ls 2 [(0, .int i), (1, .int n)] := hl
  have hS : va_S A s.heap s.heap [] := va_S.rf
  obtain ⟨-, hC, hF9⟩ := id hST
  refine lv_iload_n hx hb dj_chk_0 rfl (lv_at hl 0 rfl) ?_
  refine lv_iload_n hx hb dj_chk_1 rfl (lv_at hl 1 rfl) ?_
  obtain ⟨v, hv9, hZ⟩ : ∃ v : Value, (v = .null ∨ ∃ q, v = .ref q) ∧ va_Z "jdk/internal/util/Preconditions" "SIOOBE_FORMATTER" "Ljava/util/function/BiFunction;" v A s s.heap := by
    rcases hF9 with h | ⟨t, h⟩
    · exact ⟨_, Or.inl rfl, h⟩
    · exact ⟨_, Or.inr ⟨t, rfl⟩, h⟩
  refine va_gets (ref := "jdk/internal/util/Preconditions") hx hb hZ hS hown (hts _ (List.mem_cons_of_mem _ jw_26)) (fun _ h9 => h9) dj_chk_2 ?_
  refine W.callR (W.runS (As := [.int i, .int n, v]) (rest := []) ⟨hx, hb, hml, hown, hts⟩ (cj_pre l i n v hv9 h0 h1) (va_cwS 3 hts (fun w hw => by
      have h9 : w ∈ jw := by
        simp only [va_wsS, List.mem_append, List.mem_cons, List.not_mem_nil, or_false] at hw
        rcases hw with (rfl | rfl | rfl) | rfl | hw
        · exact jw_31
        · exact jw_12
        · exact jw_22
        · exact jw_19
        · exact hw
      exact ⟨List.mem_cons_of_mem _ h9, (jw_gd w h9).2⟩) rfl rfl rfl ⟨by decide, by decide, by decide +kernel⟩ ⟨Nat.le_of_ble_eq_true rfl, Nat.le_of_ble_eq_true rfl⟩) ⟨fun a U g mk q => ⟨q.1, trivial⟩, fun U hU hW => ⟨rfl, trivial⟩⟩ rfl rfl hl.1 rfl (lv_room (Nat.le_of_ble_eq_true rfl)) dj_chk_5 ⟨Nat.zero_le _, Nat.zero_le _⟩) ?_
  refine lv_pop hx hb dj_chk_8 rfl ?_
  exact W.vret hx hb hr (fun t ht _ => ⟨rfl, ht⟩) (fun _ h => nomatch h) dj_chk_9
set_option maxHeartbeats 4000000 in
theorem cj_c1 (l : Launch) (ρ : Nat → Nat) (A : Nat → Prop) (i : Nat) (hi : i < 25) (k : Int32) (h0 : ¬ k < 0) (h1 : k.toInt < (slT.getD i 0 : Int)) (adV : Nat → Nat) : Met l yJ1_charAt_3b067 (.code yJ1_charAt_3b067 cJ1_charAt_3b067 2 (some .char) :: jw) ({ frames := 2, cells := 0, slots := 0, locals := 60 }) (va_Pc [.ref (adV i), .int k] (fun U => STx ρ A U U.heap ∧ vz_S (fun i => ρ (i + 2)) adV A U U.heap)) (QcRead ((sbT.getD i []).getD k.toNatClampNeg 0)) 0 0 (fun _ => False) := by
  refine Met.ofW (cc := cJ1_charAt_3b067) (maxL := 2) (ret := (some .char)) (by decide) rfl ?_
  intro p e s m args below meth c s₁ B hml hv
  obtain ⟨rfl, hST, hE⟩ := hv
  have hx := B.exec
  have hb := B.bytes
  have hr := B.returns
  have hts := atoms_spec (ws := (.code yJ1_charAt_3b067 cJ1_charAt_3b067 2 (some .char) :: jw)) B.pre
  have hown : s.vm.findClass RJ1 = some m.cls := findClass_of_methodNamed B.named
  have hlocks := B.notSynchronized
  have hl := lv_entry ([.ref (adV i), .int k]) (n := 2) (Nat.le_of_ble_eq_true rfl)
  rw [lg_entry_eq]
  generalize (lg_sl ([.ref (adV i), .int k]) ++ List.replicate (2 - (lg_sl ([.ref (adV i), .int k])).length) Slot.unset).toArray = ls at hl ⊢
  have hl : lv_has ls 2 [(0, .ref (adV i)), (1, .int k)] := hl
  have hS : va_S A s.heap s.heap [] := va_S.rf
  obtain ⟨hO, hOc, hOv, hT⟩ := vz_get hE hi
  have hsl : ∀ i, i < 25 → slT.getD i 0 < 100 := by decide +kernel
  have hlt := hsl i hi
  refine lv_iload_n hx hb dj_c1_0 rfl (lv_at hl 1 rfl) ?_
  refine lv_aload_n hx hb dj_c1_1 rfl (lv_at hl 0 rfl) ?_
  refine va_tlen hx hb hT hS rfl dj_c1_2 ?_
  have hk1 : k < Int32.ofNat (slT.getD i 0) := by
    rw [Int32.lt_iff_toInt_lt, show (Int32.ofNat (slT.getD i 0)).toInt = ((slT.getD i 0 : Nat) : Int) from nI_toInt (by omega)]
    exact h1
  have hin : vp_in k (slT.getD i 0) := i32_in.mpr ⟨by rw [Int32.lt_iff_toInt_lt, Int32.toInt_zero] at h0; omega, h1⟩
  refine callN (W.runS (As := [.int k, .int (Int32.ofNat (slT.getD i 0))]) (rest := []) ⟨hx, hb, hml, hown, hts⟩ (cj_chk l ρ A k (Int32.ofNat (slT.getD i 0)) h0 hk1) (va_cwS 2 hts (fun w hw => by
      have h9 : w ∈ jw := by
        simp only [va_wsS, List.mem_append, List.mem_cons, List.not_mem_nil, or_false] at hw
        rcases hw with (rfl | rfl | rfl) | rfl | hw
        · exact jw_30
        · exact jw_10
        · exact jw_20
        · exact jw_17
        · exact hw
      exact ⟨List.mem_cons_of_mem _ h9, (jw_gd w h9).2⟩) rfl rfl rfl ⟨by decide, by decide, by decide +kernel⟩ ⟨Nat.le_of_ble_eq_true rfl, Nat.le_of_ble_eq_true rfl⟩) ⟨fun a U g mk q => ⟨q.1, STx.blind q.2⟩, fun U hU hW => ⟨rfl, STx.call hST hS hW hU⟩⟩ rfl rfl hl.1 rfl (lv_room (Nat.le_of_ble_eq_true rfl)) dj_c1_3 ⟨Nat.zero_le _, Nat.zero_le _⟩) ?_
  refine W.eq (g2 := F0 m 6 ls []) rfl ?_
  refine lv_aload_n hx hb dj_c1_6 rfl (lv_at hl 0 rfl) ?_
  refine lv_iload_n hx hb dj_c1_7 rfl (lv_at hl 1 rfl) ?_
  refine va_tb hx hb hT hS hin rfl dj_c1_8 ?_
  refine lv_sipush (v := 255) hx hb dj_c1_9 (by decide) ?_
  refine lv_iand hx hb dj_c1_12 ?_
  refine lv_i2c (v := (sbT.getD i []).getD k.toNatClampNeg 0) hx hb dj_c1_13 ?_ ?_
  · have h8 : ∀ i, i < 25 → ∀ j, j < slT.getD i 0 → ((((sbT.getD i []).getD j 0) &&& 255).toUInt32 % 65536).toInt32 = (sbT.getD i []).getD j 0 := by decide +kernel
    exact h8 i hi _ (by have : k.toNatClampNeg = k.toInt.toNat := rfl; rw [Int32.lt_iff_toInt_lt, Int32.toInt_zero] at h0; omega)
  · have h7 : narrow .char (.int ((sbT.getD i []).getD k.toNatClampNeg 0)) = .int ((sbT.getD i []).getD k.toNatClampNeg 0) := by
      have h8 : ∀ i, i < 25 → ∀ j, j < slT.getD i 0 → vp_nar .char ((sbT.getD i []).getD j 0) = (sbT.getD i []).getD j 0 := by decide +kernel
      have h6 := h8 i hi k.toNatClampNeg (by have : k.toNatClampNeg = k.toInt.toNat := rfl; rw [Int32.lt_iff_toInt_lt, Int32.toInt_zero] at h0; omega)
      have h5 : narrow .char (.int ((sbT.getD i []).getD k.toNatClampNeg 0)) = .int (vp_nar .char ((sbT.getD i []).getD k.toNatClampNeg 0)) := rfl
      rw [h5, h6]
    exact W.zret (ty := .char) hx hb hr h7 (fun t ht _ => ⟨rfl, ht⟩) (fun _ h => nomatch h) dj_c1_14
set_option maxHeartbeats 4000000 in
theorem cj_chr (l : Launch) (ρ : Nat → Nat) (A : Nat → Prop) (i : Nat) (hi : i < 25) (k : Int32) (h0 : ¬ k < 0) (h1 : k.toInt < (slT.getD i 0 : Int)) : Met l yJ0_charAt_5068e (.code yJ0_charAt_5068e cJ0_charAt_5068e 2 (some .char) :: jw) ({ frames := 3, cells := 0, slots := 0, locals := 90 }) (va_Pc [.ref (ρ (i + 2)), .int k] (fun U => STx ρ A U U.heap)) (QcRead ((sbT.getD i []).getD k.toNatClampNeg 0)) 0 0 (fun _ => False) := by
  refine Met.ofW (cc := cJ0_charAt_5068e) (maxL := 2) (ret := (some .char)) (by decide) rfl ?_
  intro p e s m args below meth c s₁ B hml hv
  obtain ⟨rfl, hST⟩ := hv
  have hx := B.exec
  have hb := B.bytes
  have hr := B.returns
  have hts := atoms_spec (ws := (.code yJ0_charAt_5068e cJ0_charAt_5068e 2 (some .char) :: jw)) B.pre
  have hown : s.vm.findClass RJ0 = some m.cls := findClass_of_methodNamed B.named
  have hlocks := B.notSynchronized
  have hl := lv_entry ([.ref (ρ (i + 2)), .int k]) (n := 2) (Nat.le_of_ble_eq_true rfl)
  rw [lg_entry_eq]
  generalize (lg_sl ([.ref (ρ (i + 2)), .int k]) ++ List.replicate (2 - (lg_sl ([.ref (ρ (i + 2)), .int k])).length) Slot.unset).toArray = ls at hl ⊢
  have hl : lv_has ls 2 [(0, .ref (ρ (i + 2))), (1, .int k)] := hl
  have hS : va_S A s.heap s.heap [] := va_S.rf
  obtain ⟨⟨adV, hE⟩, hC, hF9⟩ := id hST
  obtain ⟨hO, hOc, hOv, hT⟩ := vz_get hE hi
  refine lv_aload_n hx hb dj_chr_0 rfl (lv_at hl 0 rfl) ?_
  refine W.callR (W.runV (As := []) (rest := []) ⟨hx, hb, hml, hown, hts⟩ (cj_lat l ρ A i hi) (cwV 0 hts (fun w hw => by
      have h9 : w ∈ jw := by
        simp only [wsV, List.mem_append, List.mem_cons, List.not_mem_nil, or_false] at hw
        rcases hw with (rfl | rfl | rfl | rfl) | rfl | hw
        · exact jw_28
        · exact jw_8
        · exact jw_9
        · exact jw_20
        · exact jw_16
        · exact hw
      exact ⟨List.mem_cons_of_mem _ h9, (jw_gd w h9).2⟩) rfl rfl rfl ⟨rfl, by decide, by decide, by decide +kernel⟩ ⟨Nat.le_of_ble_eq_true rfl, Nat.le_of_ble_eq_true rfl⟩) ⟨fun a U g mk q => ⟨q.1, STx.blind q.2⟩, vz_recv hE hi hS, fun U hU hW => ⟨rfl, STx.call hST hS hW hU⟩⟩ rfl rfl hl.1 rfl (lv_room (Nat.le_of_ble_eq_true rfl)) dj_chr_1 ⟨Nat.zero_le _, Nat.zero_le _⟩) ?_
  refine W.eq (g2 := F0 m 4 ls [.int 1]) rfl ?_
  refine lv_if_eq hx hb dj_chr_4 (tgt := 16) (by decide) (fun h9 => absurd h9 (by decide)) (fun _ => ?_)
  refine lv_aload_n hx hb dj_chr_7 rfl (lv_at hl 0 rfl) ?_
  refine vk_getf (ref := "java/lang/String") hx hb hOv hS hown (hts _ (List.mem_cons_of_mem _ jw_23)) (fun _ h9 => h9) dj_chr_8 ?_
  refine lv_iload_n hx hb dj_chr_11 rfl (lv_at hl 1 rfl) ?_
  refine W.callR (W.runS (As := [.ref (adV i), .int k]) (rest := []) ⟨hx, hb, hml, hown, hts⟩ (cj_c1 l ρ A i hi k h0 h1 adV) (va_cwS 2 hts (fun w hw => by
      have h9 : w ∈ jw := by
        simp only [va_wsS, List.mem_append, List.mem_cons, List.not_mem_nil, or_false] at hw
        rcases hw with (rfl | rfl | rfl) | rfl | hw
        · exact jw_29
        · exact jw_11
        · exact jw_21
        · exact jw_18
        · exact hw
      exact ⟨List.mem_cons_of_mem _ h9, (jw_gd w h9).2⟩) rfl rfl rfl ⟨by decide, by decide, by decide +kernel⟩ ⟨Nat.le_of_ble_eq_true rfl, Nat.le_of_ble_eq_true rfl⟩) ⟨fun a U g mk q => ⟨q.1, ⟨STx.blind q.2.1, vz_S.moved (u := U) (U := U.calling g mk a) (Vm.Alike.refl U.vm) q.2.2⟩⟩, fun U hU hW => ⟨rfl, ⟨STx.call hST hS hW hU, by rw [hU]; exact (vz_S.moved hW.alike hE).kept hS.2.1⟩⟩⟩ rfl rfl hl.1 rfl (lv_room (Nat.le_of_ble_eq_true rfl)) dj_chr_12 ⟨Nat.zero_le _, Nat.zero_le _⟩) ?_
  have h7 : narrow .char (.int ((sbT.getD i []).getD k.toNatClampNeg 0)) = .int ((sbT.getD i []).getD k.toNatClampNeg 0) := by
    have h8 : ∀ i, i < 25 → ∀ j, j < slT.getD i 0 → vp_nar .char ((sbT.getD i []).getD j 0) = (sbT.getD i []).getD j 0 := by decide +kernel
    have h6 := h8 i hi k.toNatClampNeg (by have : k.toNatClampNeg = k.toInt.toNat := rfl; rw [Int32.lt_iff_toInt_lt, Int32.toInt_zero] at h0; omega)
    have h5 : narrow .char (.int ((sbT.getD i []).getD k.toNatClampNeg 0)) = .int (vp_nar .char ((sbT.getD i []).getD k.toNatClampNeg 0)) := rfl
    rw [h5, h6]
  exact W.zret (ty := .char) hx hb hr h7 (fun t ht _ => ⟨rfl, ht⟩) (fun _ h => nomatch h) dj_chr_15
