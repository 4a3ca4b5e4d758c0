/-! the contract of a method out of its pure run; the frame, by induction on the run -/
theorem cdW_e {x : Nat} (h : (hhM x).isEmpty = true) : cdW x = .code (yM x) (byt x) (mxT.getD x 0) (rtM x) := by unfold cdW; rw [if_pos h]
theorem cdW_n {x : Nat} (h : (hhM x).isEmpty = false) : cdW x = .codeWith (yM x) (byt x) (mxT.getD x 0) (rtM x) (hhM x) := by unfold cdW; rw [if_neg (by rw [h]; decide)]
theorem exc_fit : Bundle.fit (excN 0) = true ∧ Bundle.fit (excN 1) = true ∧ ∀ n ∈ ["java/lang/RuntimeException", "java/lang/Exception"], Bundle.fit n = true := by decide +kernel
section FR
variable {p : Program} {l : Launch} {e : Env} {R : Room} {s : State} {m : MethodId} {args : Array Value} {below : List Frame} {meth : Method} {c : Code} {H : Heap} {locs : List Loc} {mc ms : Nat} {free : Addr → Prop} {XC : String → State → State → Prop}
variable {pc n x y x0 : Nat} {z : Int} {ls : Array Slot} {rest : List Value} {pst : List PV}
/-- a method's end -/
theorem fr_ret {ins : Instr} {v : Option PV} {ρ : Nat → Nat} {nm nm' : Nat} {D : va_G} {A : Nat → Prop} {M' : Mem} {u : UU} (hx : p.tables.exec = Jvm.exec) (hb : c.code = byt x0) (hr : meth.sig.returnType = rtM x0) (hlocks : meth.locks = false) (hk : knd ins x = 2) (hrt : rtv ins x pst = some v) (hdg : decode (byt x0) pc = .ok (ins, n)) (hck : chkI x0 pc ins n x y z = true)
    (h1 : Ext ρ nm u.1 nm') (h2 : RW u.1 u.2.1 M' nm' u.2.2) (h3 : va_K D vwCl u.2.1 s) (h4 : va_P D vwCl u.2.2 H) (h5 : va_D A u.2.2) (hS : va_S A s.heap H locs) (hs : SR u.1 nm' pst rest) (hA : ∀ q, A q → free q) : W p l e R s m args below meth c H locs mc ms (vx_MQ below (QcM v ρ nm D A M' nm') XC args s mc ms free) (F0 m pc ls rest) := by
  refine vx_ret ?_
  have hB : ∀ t : State, t.heap = H → s.WarmedH t.vm → BW ρ nm D A M' nm' u t := fun t ht hW => ⟨h1, h2, by rw [ht]; exact h4, h3.moved hW.alike, h5⟩
  have hf : ∀ q ∈ locs, free q.base := fun q hq => hA _ (hS.2.2 q hq)
  unfold rtv at hrt
  split at hrt
  · split at hrt
    case isFalse => cases hrt
    rename_i a hx9
    cases hrt
    obtain ⟨xv, r1, rfl, hxv, hs1⟩ := hs.i
    have hr1 : r1 = [] := by cases r1 with
      | nil => rfl
      | cons _ _ => exact hs1.elim
    subst hr1
    simp only [chkI, Bool.and_eq_true, Bool.or_eq_true, decide_eq_true_eq] at hck
    have hn := Nat.eq_of_beq_eq_true hck.1
    subst hn
    rcases hck.2 with h9 | h9
    · exact W.iret hx hb (by rw [hr, h9.2]) (fun t ht hW => ⟨⟨xv, u, rfl, hxv, hB t ht hW⟩, hS.F ht⟩) hf hdg hlocks
    · have hx1 : x = 1 := Nat.eq_of_beq_eq_true h9.1
      have ha : a = 0 ∨ a = 1 := by
        rcases hx9 with h8 | h8 | h8
        · omega
        · exact Or.inl h8
        · exact Or.inr h8
      have hnar : narrow .boolean (.int xv) = .int xv := by
        rcases ha with ha | ha
        · have : xv = 0 := (i32_0 _).mpr (hxv.trans ha)
          rw [this]; rfl
        · have : xv = 1 := Int32.toInt_inj.mp (hxv.trans ha)
          rw [this]; rfl
      exact W.zret (ty := .boolean) hx hb (by rw [hr, h9.2]) hnar (fun t ht hW => ⟨⟨xv, u, rfl, hxv, hB t ht hW⟩, hS.F ht⟩) hf hdg hlocks
  · cases hrt
    obtain ⟨xv, r1, rfl, hxv, hs1⟩ := hs.l
    have hr1 : r1 = [] := by cases r1 with
      | nil => rfl
      | cons _ _ => exact hs1.elim
    subst hr1
    simp only [chkI, Bool.and_eq_true, decide_eq_true_eq] at hck
    have hn := Nat.eq_of_beq_eq_true hck.1
    subst hn
    exact W.lret hx hb (by rw [hr, hck.2]) (fun t ht hW => ⟨⟨xv, u, rfl, hxv, hB t ht hW⟩, hS.F ht⟩) hf hdg hlocks
  · cases hrt
    obtain ⟨r1, rfl, hxv, hs1⟩ := hs.a
    have hr1 : r1 = [] := by cases r1 with
      | nil => rfl
      | cons _ _ => exact hs1.elim
    subst hr1
    simp only [chkI, Bool.and_eq_true, decide_eq_true_eq] at hck
    have hn := Nat.eq_of_beq_eq_true hck.1
    subst hn
    exact W.aret (rt := .array .int) hx hb (by rw [hr, hck.2]) (Or.inr ⟨_, rfl⟩) (Or.inr ⟨_, rfl⟩) (fun t ht hW => ⟨⟨u, _, rfl, trivial, hB t ht hW, rfl, hxv⟩, hS.F ht⟩) hf hdg hlocks
  · cases hrt
    cases rest with
    | cons _ _ => exact hs.elim
    | nil =>
      simp only [chkI, Bool.and_eq_true, decide_eq_true_eq] at hck
      have hn := Nat.eq_of_beq_eq_true hck.1
      subst hn
      exact W.vret hx hb (by rw [hr, hck.2]) (fun t ht hW => ⟨⟨u, rfl, trivial, hB t ht hW⟩, hS.F ht⟩) hf hdg hlocks
  · cases hrt
end FR
set_option maxHeartbeats 4000000 in
theorem met_ok {f d x : Nat} (hPF : PF f) {ar : List PV} {M : Mem} {K : KK} {r : RR} {M' : Mem} {K' : KK} (hrun : run f d x 0 (mkL x ar) [] M K = some (r, M', K')) (hx290 : x < 290) (hx288 : x ≠ 288) (hmx : ar.length ≤ mxT.getD x 0) (hno : noL ar = true) (h32 : 32 ≤ K.1) (l : Launch) (hlf : l.stackTraces = false)
    {ρ : Nat → Nat} {D : va_G} {tys : List (ClassId × FieldType)} {ws : va_W} {sz : Nat} {avs : List Value} (hav : SR ρ K.1 ar avs) (hRW : RW ρ tys M K.1 ws) :
    vx_Met l (yM x) (cdW x :: bx) (rmx d (K'.2.1 - K.2.1) (K'.2.2 - K.2.2)) (PcM ρ D tys ws sz avs) (QcR r ρ K.1 D (va_A ws sz) M' K'.1) (XcR r ρ K.1 D (va_A ws sz) M' K'.1) (K'.2.1 - K.2.1) (K'.2.2 - K.2.2) (va_A ws sz) := by
  obtain ⟨m1, m2, m3, m4⟩ := run_mono f hrun h32
  obtain ⟨-, -, -, fw, fc, fo, -, -⟩ := fl_290 x hx290
  obtain ⟨np1, np2⟩ := np_290 x hx290
  have hcn := cnL_ok _ fo
  have body : ∀ (p : Program) (e : Env) (s : State) (m : MethodId) (args : Array Value) (below : List Frame) (meth : Method) (c : Code) (s₁ : State), BodyLoose p l (yM x) (headSpec (cdW x :: bx) (rmx d (K'.2.1 - K.2.1) (K'.2.2 - K.2.2))) (byt x) (mxT.getD x 0) (rtM x) e s m args below meth c s₁ → c.maxLocals = mxT.getD x 0 → ((hhM x).isEmpty = true → ∀ z ∈ c.exceptionTable.toList, False) → EXy c x → PcM ρ D tys ws sz avs args s →
      W p l e (headSpec (cdW x :: bx) (rmx d (K'.2.1 - K.2.1) (K'.2.2 - K.2.2))).room s m args below meth c s.heap [] 0 0 (vx_MQ below (QcR r ρ K.1 D (va_A ws sz) M' K'.1) (XcR r ρ K.1 D (va_A ws sz) M' K'.1) args s (K'.2.1 - K.2.1) (K'.2.2 - K.2.2) (va_A ws sz)) (entryFrame m args (mxT.getD x 0)) := by
    intro p e s m args below meth c s₁ B hml hex hexy hpc
    obtain ⟨rfl, hsz, hP, hK, hD0, hG⟩ := hpc
    have hts := atoms_spec (ws := cdW x :: bx) B.pre
    have hown : s.vm.findClass (own x) = some m.cls := by rw [← fc]; exact findClass_of_methodNamed B.named
    have hF : FCx p m c s avs.toArray meth x := ⟨B.exec, B.bytes, hml, hown, fun w hw => hts w (List.mem_cons_of_mem _ (List.mem_append_left _ hw)), hG.1, fun hi => by
      have h9 := (name_of_methodNamed B.named B.method).1
      rw [h9]
      exact (np2 hi).1⟩
    subst hsz
    have hD := hD0.self (sz := s.heap.size)
    have hA : ∀ q : Nat, s.heap.size ≤ q → va_A ws s.heap.size q := fun q h => Or.inr h
    have hl := LR.entry (nL := mxT.getD x 0) hav hno hmx
    rw [lg_entry_eq]
    have hlocks := B.notSynchronized
    refine hPF hrun hF (fun w hw => hts w (List.mem_cons_of_mem _ (List.mem_append_right _ hw))) hexy hG (fun h => absurd h hx288) h32 hlf hRW hK hP hD va_S.rf hA hl trivial (Nat.le_refl _) (Nat.le_refl _) (mc := K'.2.1 - K.2.1) (ms := K'.2.2 - K.2.2) (by omega) (by omega) (Nat.le_refl _) (Nat.le_refl _) ?_ ?_ ?_
    · intro v hv ins n x9 y z pc' pst' u H' locs' ls' rest' g1 g2 g3 g4 g5 g6 g7 g8 g9 g10 g11
      subst hv
      exact fr_ret B.exec B.bytes B.returns hlocks g1 g2 g3 g4 g5 g6 g7 g8 g9 g10 g11 (fun q h => h)
    · intro e9 he i n y z pc' u H' locs' ls' rest' cells' slots' x9 g0 g0' g1 g2 g3 g4 g5 g6 g7 g8 g9 g10 g11
      subst he
      obtain ⟨c1, c2, c3, -⟩ := cd_ck g1 (fun h => by cases h)
      simp only [chkI, Bool.and_eq_true, Bool.or_eq_true] at c3
      have hm9 : x = 136 ∨ x = 137 := by
        rcases c3.2 with h8 | h8
        · have := Nat.le_of_ble_eq_true h8
          omega
        · rcases h8.2 with h7 | h7
          · exact Or.inl (Nat.eq_of_beq_eq_true h7)
          · exact Or.inr (Nat.eq_of_beq_eq_true h7)
      obtain ⟨-, -, h3v, -, hU, hN, hCS⟩ := hG
      have hxx : ∀ t : State, s.vm.Alike t.vm → H'.size ≤ t.heap.size → (∀ q : Nat, q < H'.size → t.heap[q]? = H'[q]?) → ∀ E : String, E = excN e9 → vx_X (fun _ : UU => True) (fun E u t => E = excN e9 ∧ BW ρ K.1 D (va_A ws s.heap.size) M' K'.1 u t) (va_A ws s.heap.size) E s t := by
        intro t hv hz hq E hE
        refine ⟨u, trivial, ⟨hE, g4, g5, g7.kept (fun k q hk => hq _ (g7 k q hk).lt), g6.moved hv, g8⟩, Nat.le_trans g9.1 hz, fun q h1 h2 => (hq q (Nat.lt_of_lt_of_le h1 g9.1)).trans (g9.2.1 q h1 h2)⟩
      have hhe : (hhM x).isEmpty = true := by rcases hm9 with rfl | rfl <;> rfl
      rcases hm9 with rfl | rfl
      · exact (by
          obtain ⟨p1, p2⟩ := dt0_at g1 g0
          subst p1
          subst p2
          subst g0'
          have hat : ∀ w ∈ vx_atS RX11 371 (excN 0) ["java/lang/RuntimeException", "java/lang/Exception"], w.before avs.toArray s = true := vx_hat (fun w hw => hts w (List.mem_cons_of_mem _ (List.mem_append_right _ (List.mem_append_right _ (List.mem_append_right _ (List.mem_append_left _ hw)))))) tw_b0 (fun w hw => by
            simp only [List.mem_cons, List.not_mem_nil, or_false] at hw
            rcases hw with rfl | rfl | rfl | rfl
            · exact va_Nw.use rfl hCS.1
            · exact va_Nw.use rfl hCS.2.2.1
            · exact va_Nw.use rfl hCS.2.2.2.1
            · exact va_Nw.use rfl hCS.2.2.2.2.1)
          exact vx_throwSW (own := RX11) (cls := excN 0) (text := "not so") (names := ["java/lang/RuntimeException", "java/lang/Exception"]) (ik := 367) (is := 369) (ic := 371) (sa := ρ (23 + 2)) (A := va_A ws s.heap.size) B.exec B.bytes hlf hown exc_fit.1 exc_fit.2.2
            (hts _ (List.mem_cons_of_mem _ (List.mem_append_right _ (List.mem_append_right _ (List.mem_append_left _ (List.mem_of_getElem? (i := 0) rfl)))))) (hts _ (List.mem_cons_of_mem _ (List.mem_append_right _ (List.mem_append_right _ (List.mem_append_left _ (List.mem_of_getElem? (i := 1) rfl)))))) (h3v 23 (by omega)) hat tw_g0 hU hN g9 (g10.trans hml.symm) dt0_0 dt0_3 dt0_4 dt0_7 dt0_10 (fun z hz => (hex hhe z hz).elim)
            (by show 5 < d + 8; omega) (by show _ + 82 ≤ 40 * d + 400; omega) (by show cells' + 1 ≤ K'.2.1 - K.2.1; omega) (by show slots' + 6 ≤ K'.2.2 - K.2.2; omega) hlocks (fun t hv hz hq => hxx t hv hz hq _ rfl) (fun q hq => g9.2.2 q hq) (by omega) (by omega))
      · exact (by
          obtain ⟨p1, p2⟩ := dt1_at g1 g0
          subst p1
          subst p2
          subst g0'
          have hat : ∀ w ∈ tx_at RX11 378 (excN 1) 13 rxN ["java/lang/RuntimeException", "java/lang/Exception"], w.before avs.toArray s = true := vx_hat (fun w hw => hts w (List.mem_cons_of_mem _ (List.mem_append_right _ (List.mem_append_right _ (List.mem_append_right _ (List.mem_append_right _ hw)))))) tw_b1 (fun w hw => by
            simp only [List.mem_cons, List.not_mem_nil, or_false] at hw
            rcases hw with rfl | rfl | rfl | rfl
            · exact va_Nw.use rfl hCS.2.1
            · exact va_Nw.use rfl hCS.2.2.1
            · exact va_Nw.use rfl hCS.2.2.2.1
            · exact va_Nw.use rfl hCS.2.2.2.2.1)
          exact tx_throw (own := RX11) (cls := excN 1) (text := "no such one") (names := ["java/lang/RuntimeException", "java/lang/Exception"]) (ik := 374) (is := 376) (ic := 378) (sa := ρ (24 + 2)) (A := va_A ws s.heap.size) B.exec B.bytes hlf rxN_0 rxN_1 rxN_2 rxN_5 hown exc_fit.2.1 exc_fit.2.2
            (hts _ (List.mem_cons_of_mem _ (List.mem_append_right _ (List.mem_append_right _ (List.mem_append_left _ (List.mem_of_getElem? (i := 2) rfl)))))) (hts _ (List.mem_cons_of_mem _ (List.mem_append_right _ (List.mem_append_right _ (List.mem_append_left _ (List.mem_of_getElem? (i := 3) rfl)))))) (h3v 24 (by omega)) hat tw_g1 hU hN g9 (g10.trans hml.symm) dt1_0 dt1_3 dt1_4 dt1_7 dt1_10 (fun z hz => (hex hhe z hz).elim)
            (by show 5 < d + 8; omega) (by show _ + 82 ≤ 40 * d + 400; omega) (by show cells' + 1 ≤ K'.2.1 - K.2.1; omega) (by show slots' + 6 ≤ K'.2.2 - K.2.2; omega) hlocks (fun t hv hz hq => hxx t hv hz hq _ rfl) (fun q hq => g9.2.2 q hq) (by omega) (by omega))
    · intro e9 he hemp pc' u H' locs' ls' rest' q ce g4 g5 g6 g7 g8 g9 g10 g11 g12
      subst he
      exact vx_out (fun z hz => (hex hemp z hz).elim) hlocks g10 g11 g12 (fun t ht hv => ⟨u, trivial, ⟨rfl, g4, g5, by rw [ht]; exact g7, g6.moved hv, g8⟩, g9.F ht⟩) (fun q hq => g9.2.2 q hq) (Nat.le_refl _) (Nat.le_refl _)
  cases hh : (hhM x).isEmpty
  · refine vx_ofWH (cc := byt x) (maxL := mxT.getD x 0) (ret := rtM x) (hh := hhM x) (by rw [fc]; exact hcn.2.2) (by rw [cdW_n hh]) ?_
    intro p e s m args below meth c s₁ B hml hpc
    refine body p e s m args below meth c s₁ B hml (fun h => by rw [hh] at h; cases h) (fun _ => ?_) hpc
    exact vx_table (x := yM x) B (atoms_spec (ws := cdW x :: bx) B.pre _ (by rw [cdW_n hh]; exact List.mem_cons_self))
  · refine vx_ofW (cc := byt x) (maxL := mxT.getD x 0) (ret := rtM x) (by rw [fc]; exact hcn.2.2) (by rw [cdW_e hh]) ?_
    intro p e s m args below meth c s₁ B hml hnoex hpc
    exact body p e s m args below meth c s₁ B hml (fun _ => hnoex) (fun h => by rw [hh] at h; cases h) hpc
