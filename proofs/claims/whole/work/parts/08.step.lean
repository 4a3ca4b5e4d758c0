/-! one step of the pure machine against the machine -/
set_option maxRecDepth 100000 in
theorem ins_in (x : Nat) (hx : x < 13) : Cond.instantiable (clM x).1 (clM x).2.2 ∈ bw := by
  rcases (show x = 0 ∨ x = 1 ∨ x = 2 ∨ x = 3 ∨ x = 4 ∨ x = 5 ∨ x = 6 ∨ x = 7 ∨ x = 8 ∨ x = 9 ∨ x = 10 ∨ x = 11 ∨ x = 12 by omega) with rfl | rfl | rfl | rfl | rfl | rfl | rfl | rfl | rfl | rfl | rfl | rfl | rfl
  · exact List.mem_of_getElem? (i := 0) rfl
  · exact List.mem_of_getElem? (i := 14) rfl
  · exact List.mem_of_getElem? (i := 20) rfl
  · exact List.mem_of_getElem? (i := 26) rfl
  · exact List.mem_of_getElem? (i := 34) rfl
  · exact List.mem_of_getElem? (i := 40) rfl
  · exact List.mem_of_getElem? (i := 46) rfl
  · exact List.mem_of_getElem? (i := 50) rfl
  · exact List.mem_of_getElem? (i := 60) rfl
  · exact List.mem_of_getElem? (i := 65) rfl
  · exact List.mem_of_getElem? (i := 71) rfl
  · exact List.mem_of_getElem? (i := 81) rfl
  · exact List.mem_of_getElem? (i := 103) rfl
set_option maxRecDepth 100000 in
theorem ini_in (x : Nat) (hx : x < 13) : Cond.initialized (clM x).1 ∈ bw := by
  rcases (show x = 0 ∨ x = 1 ∨ x = 2 ∨ x = 3 ∨ x = 4 ∨ x = 5 ∨ x = 6 ∨ x = 7 ∨ x = 8 ∨ x = 9 ∨ x = 10 ∨ x = 11 ∨ x = 12 by omega) with rfl | rfl | rfl | rfl | rfl | rfl | rfl | rfl | rfl | rfl | rfl | rfl | rfl
  · exact List.mem_of_getElem? (i := 1) rfl
  · exact List.mem_of_getElem? (i := 15) rfl
  · exact List.mem_of_getElem? (i := 21) rfl
  · exact List.mem_of_getElem? (i := 27) rfl
  · exact List.mem_of_getElem? (i := 35) rfl
  · exact List.mem_of_getElem? (i := 41) rfl
  · exact List.mem_of_getElem? (i := 47) rfl
  · exact List.mem_of_getElem? (i := 51) rfl
  · exact List.mem_of_getElem? (i := 61) rfl
  · exact List.mem_of_getElem? (i := 66) rfl
  · exact List.mem_of_getElem? (i := 72) rfl
  · exact List.mem_of_getElem? (i := 82) rfl
  · exact List.mem_of_getElem? (i := 104) rfl
set_option maxRecDepth 100000 in
theorem arI_in : Cond.arrayClass .int ∈ bw := List.mem_of_getElem? (i := 1461) rfl
set_option maxRecDepth 100000 in
theorem arC_in : Cond.arrayClass .char ∈ bw := List.mem_of_getElem? (i := 1462) rfl
set_option maxRecDepth 100000 in
theorem arL_in : Cond.arrayClass .long ∈ bw := List.mem_of_getElem? (i := 1463) rfl
set_option maxRecDepth 100000 in
theorem mmax_s : Cond.static Lib.Math.max.name ∈ bw := List.mem_of_getElem? (i := 1464) rfl
set_option maxRecDepth 100000 in
theorem mmin_s : Cond.static Lib.Math.min.name ∈ bw := List.mem_of_getElem? (i := 1465) rfl
set_option maxRecDepth 100000 in
theorem mabs_s : Cond.static Lib.Math.abs.name ∈ bw := List.mem_of_getElem? (i := 1466) rfl
set_option maxRecDepth 100000 in
theorem mth_i : Cond.initialized "java/lang/Math" ∈ bw := List.mem_of_getElem? (i := 1467) rfl
set_option maxRecDepth 100000 in
theorem mmax_c : Cond.code Lib.Math.max.name Lib.Math.max.code 2 (some .int) ∈ bw := List.mem_of_getElem? (i := 1468) rfl
set_option maxRecDepth 100000 in
theorem mmin_c : Cond.code Lib.Math.min.name Lib.Math.min.code 2 (some .int) ∈ bw := List.mem_of_getElem? (i := 1469) rfl
set_option maxRecDepth 100000 in
theorem mabs_c : Cond.code Lib.Math.abs.name Lib.Math.abs.code 1 (some .int) ∈ bw := List.mem_of_getElem? (i := 1470) rfl
set_option maxRecDepth 100000 in
theorem cpy_n : Cond.native arraycopyName ∈ bw := List.mem_of_getElem? (i := 1471) rfl
set_option maxRecDepth 100000 in
theorem cpy_s : Cond.static arraycopyName ∈ bw := List.mem_of_getElem? (i := 1472) rfl
set_option maxRecDepth 100000 in
theorem sys_i : Cond.initialized "java/lang/System" ∈ bw := List.mem_of_getElem? (i := 1473) rfl
set_option maxRecDepth 100000 in
theorem obj_i : Cond.instanceMethod objectInit ∈ bw := List.mem_of_getElem? (i := 155) rfl
set_option maxRecDepth 100000 in
theorem obj_c : Cond.code objectInit ⟨#[0xb1]⟩ 1 none ∈ bw := List.mem_of_getElem? (i := 156) rfl
def FCx (p : Program) (mI : MethodId) (c : Code) (s : State) (args : Array Value) (meth : Method) (x : Nat) : Prop :=
  p.tables.exec = Jvm.exec ∧ c.code = byt x ∧ c.maxLocals = mxT.getD x 0 ∧ s.vm.findClass (own x) = some mI.cls ∧ (∀ w ∈ bw, w.before args s = true) ∧ (∀ w ∈ nw, va_Nw w s) ∧ (inT.getD x false = true → meth.name = "<init>")
def SCx (ρ : Nat → Nat) (A : Nat → Prop) (s : State) (M : Mem) : Prop := ∃ (b L : Nat) (xs : Nat → Int32), ρ 31 = b ∧ va_X b L xs s s.heap ∧ b < s.heap.size ∧ ¬ A b ∧ L < 2 ^ 31 ∧ M 30 0 = (L : Int) ∧ ∀ j, j < L → M 31 j = (xs j).toInt
def AOx (s : State) : Prop := va_AO RX3 s ∧ va_AO RX6 s ∧ va_AOA .int s
def VKx (ρ : Nat → Nat) (s : State) : Prop := ∀ i, i < 25 → vk_R (ssT.getD i ("", 0, "")).1 (ssT.getD i ("", 0, "")).2.1 (ssT.getD i ("", 0, "")).2.2 (ρ (i + 2)) s
theorem clM_at {x : Nat} (hx : x < 13) : vwCl[x]? = some (clM x) := by
  rcases (show x = 0 ∨ x = 1 ∨ x = 2 ∨ x = 3 ∨ x = 4 ∨ x = 5 ∨ x = 6 ∨ x = 7 ∨ x = 8 ∨ x = 9 ∨ x = 10 ∨ x = 11 ∨ x = 12 by omega) with rfl | rfl | rfl | rfl | rfl | rfl | rfl | rfl | rfl | rfl | rfl | rfl | rfl <;> rfl
theorem clM_ty {x : Nat} (hx : x < 13) : ∀ k, k < (clM x).2.2 → parseFieldDescriptor ((clM x).2.1 k).2.2.1 = some (tyO x k) := by
  rcases (show x = 0 ∨ x = 1 ∨ x = 2 ∨ x = 3 ∨ x = 4 ∨ x = 5 ∨ x = 6 ∨ x = 7 ∨ x = 8 ∨ x = 9 ∨ x = 10 ∨ x = 11 ∨ x = 12 by omega) with rfl | rfl | rfl | rfl | rfl | rfl | rfl | rfl | rfl | rfl | rfl | rfl | rfl
  · exact tyX0_ok
  · exact tyX1_ok
  · exact tyX2_ok
  · exact tyX3_ok
  · exact tyX4_ok
  · exact tyX5_ok
  · exact tyX6_ok
  · exact tyX7_ok
  · exact tyX8_ok
  · exact tyX9_ok
  · exact tyX10_ok
  · exact tyX11_ok
  · exact tyX12_ok
theorem clM_nm {x : Nat} (hx : x < 13) : ∀ a, a < (clM x).2.2 → ∀ b, b < (clM x).2.2 → a ≠ b → ((clM x).2.1 a).2.1 ≠ ((clM x).2.1 b).2.1 := by
  rcases (show x = 0 ∨ x = 1 ∨ x = 2 ∨ x = 3 ∨ x = 4 ∨ x = 5 ∨ x = 6 ∨ x = 7 ∨ x = 8 ∨ x = 9 ∨ x = 10 ∨ x = 11 ∨ x = 12 by omega) with rfl | rfl | rfl | rfl | rfl | rfl | rfl | rfl | rfl | rfl | rfl | rfl | rfl
  · exact nmX0
  · exact nmX1
  · exact nmX2
  · exact nmX3
  · exact nmX4
  · exact nmX5
  · exact nmX6
  · exact nmX7
  · exact nmX8
  · exact nmX9
  · exact nmX10
  · exact nmX11
  · exact nmX12
theorem clM_df {x : Nat} (hx : x < 13) : ∀ k, tyO x k = .int ∨ tyO x k = .long ∨ (∃ C, tyO x k = .object C) ∨ ∃ t, tyO x k = .array t := by
  intro k
  rcases (show x = 0 ∨ x = 1 ∨ x = 2 ∨ x = 3 ∨ x = 4 ∨ x = 5 ∨ x = 6 ∨ x = 7 ∨ x = 8 ∨ x = 9 ∨ x = 10 ∨ x = 11 ∨ x = 12 by omega) with rfl | rfl | rfl | rfl | rfl | rfl | rfl | rfl | rfl | rfl | rfl | rfl | rfl
  · show tyX0 k = _ ∨ tyX0 k = _ ∨ (∃ C, tyX0 k = _) ∨ ∃ t, tyX0 k = _
    unfold tyX0
    split <;> simp
  · show tyX1 k = _ ∨ tyX1 k = _ ∨ (∃ C, tyX1 k = _) ∨ ∃ t, tyX1 k = _
    unfold tyX1
    split <;> simp
  · show tyX2 k = _ ∨ tyX2 k = _ ∨ (∃ C, tyX2 k = _) ∨ ∃ t, tyX2 k = _
    unfold tyX2
    split <;> simp
  · show tyX3 k = _ ∨ tyX3 k = _ ∨ (∃ C, tyX3 k = _) ∨ ∃ t, tyX3 k = _
    unfold tyX3
    split <;> simp
  · show tyX4 k = _ ∨ tyX4 k = _ ∨ (∃ C, tyX4 k = _) ∨ ∃ t, tyX4 k = _
    unfold tyX4
    split <;> simp
  · show tyX5 k = _ ∨ tyX5 k = _ ∨ (∃ C, tyX5 k = _) ∨ ∃ t, tyX5 k = _
    unfold tyX5
    split <;> simp
  · show tyX6 k = _ ∨ tyX6 k = _ ∨ (∃ C, tyX6 k = _) ∨ ∃ t, tyX6 k = _
    unfold tyX6
    split <;> simp
  · show tyX7 k = _ ∨ tyX7 k = _ ∨ (∃ C, tyX7 k = _) ∨ ∃ t, tyX7 k = _
    unfold tyX7
    split <;> simp
  · show tyX8 k = _ ∨ tyX8 k = _ ∨ (∃ C, tyX8 k = _) ∨ ∃ t, tyX8 k = _
    unfold tyX8
    split <;> simp
  · show tyX9 k = _ ∨ tyX9 k = _ ∨ (∃ C, tyX9 k = _) ∨ ∃ t, tyX9 k = _
    unfold tyX9
    split <;> simp
  · show tyX10 k = _ ∨ tyX10 k = _ ∨ (∃ C, tyX10 k = _) ∨ ∃ t, tyX10 k = _
    unfold tyX10
    split <;> simp
  · show tyX11 k = _ ∨ tyX11 k = _ ∨ (∃ C, tyX11 k = _) ∨ ∃ t, tyX11 k = _
    unfold tyX11
    split <;> simp
  · show tyX12 k = _ ∨ tyX12 k = _ ∨ (∃ C, tyX12 k = _) ∨ ∃ t, tyX12 k = _
    unfold tyX12
    split <;> simp
theorem clM_dc {x : Nat} (hx : x < 13) : ∀ k, ((clM x).2.1 k).1 = (clM x).1 := by
  intro k
  rcases (show x = 0 ∨ x = 1 ∨ x = 2 ∨ x = 3 ∨ x = 4 ∨ x = 5 ∨ x = 6 ∨ x = 7 ∨ x = 8 ∨ x = 9 ∨ x = 10 ∨ x = 11 ∨ x = 12 by omega) with rfl | rfl | rfl | rfl | rfl | rfl | rfl | rfl | rfl | rfl | rfl | rfl | rfl
  · show (TX0 k).1 = RX0
    unfold TX0 RX0
    split <;> rfl
  · show (TX1 k).1 = RX1
    unfold TX1 RX1
    split <;> rfl
  · show (TX2 k).1 = RX2
    unfold TX2 RX2
    split <;> rfl
  · show (TX3 k).1 = RX3
    unfold TX3 RX3
    split <;> rfl
  · show (TX4 k).1 = RX4
    unfold TX4 RX4
    split <;> rfl
  · show (TX5 k).1 = RX5
    unfold TX5 RX5
    split <;> rfl
  · show (TX6 k).1 = RX6
    unfold TX6 RX6
    split <;> rfl
  · show (TX7 k).1 = RX7
    unfold TX7 RX7
    split <;> rfl
  · show (TX8 k).1 = RX8
    unfold TX8 RX8
    split <;> rfl
  · show (TX9 k).1 = RX9
    unfold TX9 RX9
    split <;> rfl
  · show (TX10 k).1 = RX10
    unfold TX10 RX10
    split <;> rfl
  · show (TX11 k).1 = RX11
    unfold TX11 RX11
    split <;> rfl
  · show (TX12 k).1 = RX12
    unfold TX12 RX12
    split <;> rfl
theorem zok_sp {x y : Nat} {z : Int} (h : zok x y z = true) : (z = 0 ∧ tyO x y = .int) ∨ (z = 1 ∧ tyO x y = .long) ∨ (z = 2 ∧ ((∃ C, tyO x y = .object C) ∨ ∃ t, tyO x y = .array t)) := by
  unfold zok at h
  split at h
  · rename_i e; exact Or.inl ⟨of_decide_eq_true h, e⟩
  · rename_i e; exact Or.inr (Or.inl ⟨of_decide_eq_true h, e⟩)
  · rename_i C e; exact Or.inr (Or.inr ⟨of_decide_eq_true h, Or.inl ⟨C, e⟩⟩)
  · rename_i t e; exact Or.inr (Or.inr ⟨of_decide_eq_true h, Or.inr ⟨t, e⟩⟩)
  · cases h
section ST
variable {p : Program} {l : Launch} {e : Env} {R : Room} {s : State} {mI : MethodId} {args : Array Value} {below : List Frame} {meth : Method} {c : Code} {H : Heap} {locs : List Loc} {cells slots : Nat} {Q : State → Prop}
variable {pc n x y x0 : Nat} {z : Int} {ls : Array Slot} {rest : List Value} {ρ : Nat → Nat} {nL : Nat} {pls st : List PV} {M : Mem} {K : KK} {q : PS}
variable {D : va_G} {tys : List (ClassId × FieldType)} {ws : va_W} {A : Nat → Prop}
set_option maxHeartbeats 4000000 in
theorem sn_step {ins : Instr} (hF : FCx p mI c s args meth x0) (hx290 : x0 < 290) (hAO : AOx s) (hVK : VKx ρ s) (hSC : x0 = 288 → SCx ρ A s M) (hK32 : 32 ≤ K.1)
    (hdg : decode (byt x0) pc = .ok (ins, n)) (hck : chkI x0 pc ins n x y z = true) (hl1 : lkk x0 (ins, n, x, y, z) = 1 → lkW x0 (ins, n, x, y, z) ∈ bw) (hl2 : lkk x0 (ins, n, x, y, z) = 2 → lkW x0 (ins, n, x, y, z) ∈ nw) (hcall : knd ins x = 0) (hstr : x ≠ 0 → ∀ i, ins = .ldc i → (ssT.getD (y - 2) ("", 0, "")).1 = own x0 ∧ (ssT.getD (y - 2) ("", 0, "")).2.1 = i)
    (h4 : ∀ (index a : Nat) (r : List PV) (rest : List Value), decode (byt x0) pc = .ok (.invokevirtual index, 3) → x = 1004 → 2 ≤ a ∧ a < 27 → r.length ≤ 4 → SR ρ K.1 r rest → (∀ v : Int32, v.toInt = ((stT.getD (a - 2) []).length : Int) → W p l e R s mI args below meth c H locs cells slots Q (F0 mI (pc + 3) ls (.int v :: rest))) → W p l e R s mI args below meth c H locs cells slots Q (F0 mI pc ls (.ref (ρ a) :: rest)))
    (h5 : ∀ (index a : Nat) (i : Int32) (r : List PV) (rest : List Value), decode (byt x0) pc = .ok (.invokevirtual index, 3) → x = 1005 → (2 ≤ a ∧ a < 27) → 0 ≤ i.toInt ∧ i.toInt < ((stT.getD (a - 2) []).length : Int) → r.length ≤ 4 → SR ρ K.1 r rest → (∀ v : Int32, v.toInt = (((stT.getD (a - 2) []).getD i.toInt.toNat 0 : Nat) : Int) → W p l e R s mI args below meth c H locs cells slots Q (F0 mI (pc + 3) ls (.int v :: rest))) → W p l e R s mI args below meth c H locs cells slots Q (F0 mI pc ls (.int i :: .ref (ρ a) :: rest)))
    (h : stp ins n x y z pc pls st M K = some q) (hR : RW ρ tys M K.1 ws) (hK : va_K D vwCl tys s) (hP : va_P D vwCl ws H) (hD : va_D A ws) (hS : va_S A s.heap H locs) (hA : ∀ q, s.heap.size ≤ q → A q) (hl : LR ρ K.1 (mxT.getD x0 0) pls ls) (hs : SR ρ K.1 st rest)
    (hfr : 1 ≤ R.frames) (hlo : 100 ≤ R.locals) (hcells : cells + (q.2.2.2.2.2.1 - K.2.1) ≤ R.cells) (hslots : slots + (q.2.2.2.2.2.2 - K.2.2) ≤ R.slots)
    (hk : ∀ (ρ' : Nat → Nat) (tys' : List (ClassId × FieldType)) (ws' : va_W) (H' : Heap) (locs' : List Loc) (ls' : Array Slot) (rest' : List Value), Ext ρ K.1 ρ' q.2.2.2.2.1 → RW ρ' tys' q.2.2.2.1 q.2.2.2.2.1 ws' → va_K D vwCl tys' s → va_P D vwCl ws' H' → va_D A ws' → va_S A s.heap H' locs' → LR ρ' q.2.2.2.2.1 (mxT.getD x0 0) q.2.1 ls' → SR ρ' q.2.2.2.2.1 q.2.2.1 rest' → W p l e R s mI args below meth c H' locs' (cells + (q.2.2.2.2.2.1 - K.2.1)) (slots + (q.2.2.2.2.2.2 - K.2.2)) Q (F0 mI q.1 ls' rest')) : W p l e R s mI args below meth c H locs cells slots Q (F0 mI pc ls rest) := by
  obtain ⟨hx, hb, hml, hown, hts, hnw, hinit⟩ := hF
  have hk1 : q.2.2.2.1 = M → q.2.2.2.2 = K → ∀ (ls' : Array Slot) (rest' : List Value), LR ρ K.1 (mxT.getD x0 0) q.2.1 ls' → SR ρ K.1 q.2.2.1 rest' → W p l e R s mI args below meth c H locs cells slots Q (F0 mI q.1 ls' rest') := by
    intro e1 e2 ls' rest' g1 g2
    have := hk ρ tys ws H locs ls' rest' (by rw [e2]; exact Ext.rf) (by rw [e1, e2]; exact hR) hK hP hD hS (by rw [e2]; exact g1) (by rw [e2]; exact g2)
    rw [e2, Nat.sub_self, Nat.sub_self, Nat.add_zero, Nat.add_zero] at this
    exact this
  have hk2 : q.2.1 = pls → q.2.2.2.1 = M → q.2.2.2.2 = K → ∀ (rest' : List Value), SR ρ K.1 q.2.2.1 rest' → W p l e R s mI args below meth c H locs cells slots Q (F0 mI q.1 ls rest') :=
    fun e0 e1 e2 rest' g => hk1 e1 e2 ls rest' (by rw [e0]; exact hl) g
  have hk3 : q.2.1 = pls → q.2.2.2.2 = K → ∀ (ws' : va_W) (H' : Heap) (locs' : List Loc) (rest' : List Value), RW ρ tys q.2.2.2.1 K.1 ws' → va_P D vwCl ws' H' → va_D A ws' → va_S A s.heap H' locs' → SR ρ K.1 q.2.2.1 rest' → W p l e R s mI args below meth c H' locs' cells slots Q (F0 mI q.1 ls rest') := by
    intro e0 e2 ws' H' locs' rest' g1 g2 g3 g4 g5
    have := hk ρ tys ws' H' locs' ls rest' (by rw [e2]; exact Ext.rf) (by rw [e2]; exact g1) hK g2 g3 g4 (by rw [e2, e0]; exact hl) (by rw [e2]; exact g5)
    rw [e2, Nat.sub_self, Nat.sub_self, Nat.add_zero, Nat.add_zero] at this
    exact this
  cases ins
  case iconst v =>
    have hn : n = 1 := Nat.eq_of_beq_eq_true (by simp only [chkI, Bool.and_eq_true] at hck; exact hck.1)
    subst hn
    have e9 : q.2.1 = pls ∧ q.2.2.2.1 = M ∧ q.2.2.2.2 = K := by
      have h9 := h
      simp only [stp, p1, p2, q2, pA, pAI, ld] at h9
      (repeat' split at h9) <;> first | (cases h9; done) | (cases h9; exact ⟨rfl, rfl, rfl⟩)
    have hr : -1 ≤ v ∧ v ≤ 5 := by simp only [chkI, Bool.and_eq_true] at hck; exact of_decide_eq_true hck.2
    exact so_push (v := vI v) (w := .int (Int32.ofInt v)) (fun k => lv_iconst hx hb hdg rfl k) ⟨_, rfl, Int32.toInt_ofInt_of_le (by omega) (by omega)⟩ h hs (hk2 e9.1 e9.2.1 e9.2.2)
  case bipush v =>
    have hn : n = 2 := Nat.eq_of_beq_eq_true (by simp only [chkI, Bool.and_eq_true] at hck; exact hck.1)
    subst hn
    have e9 : q.2.1 = pls ∧ q.2.2.2.1 = M ∧ q.2.2.2.2 = K := by
      have h9 := h
      simp only [stp, p1, p2, q2, pA, pAI, ld] at h9
      (repeat' split at h9) <;> first | (cases h9; done) | (cases h9; exact ⟨rfl, rfl, rfl⟩)
    have hr : -128 ≤ v ∧ v < 128 := by simp only [chkI, Bool.and_eq_true] at hck; exact of_decide_eq_true hck.2
    exact so_push (v := vI v) (w := .int ((Int8.ofInt v).toInt32)) (fun k => lv_bipush hx hb hdg rfl k) ⟨_, rfl, by rw [Int8.toInt_toInt32]; exact Int8.toInt_ofInt_of_le (by omega) (by omega)⟩ h hs (hk2 e9.1 e9.2.1 e9.2.2)
  case sipush v =>
    have hn : n = 3 := Nat.eq_of_beq_eq_true (by simp only [chkI, Bool.and_eq_true] at hck; exact hck.1)
    subst hn
    have e9 : q.2.1 = pls ∧ q.2.2.2.1 = M ∧ q.2.2.2.2 = K := by
      have h9 := h
      simp only [stp, p1, p2, q2, pA, pAI, ld] at h9
      (repeat' split at h9) <;> first | (cases h9; done) | (cases h9; exact ⟨rfl, rfl, rfl⟩)
    have hr : -32768 ≤ v ∧ v < 32768 := by simp only [chkI, Bool.and_eq_true] at hck; exact of_decide_eq_true hck.2
    exact so_push (v := vI v) (w := .int ((Int16.ofInt v).toInt32)) (fun k => lv_sipush hx hb hdg rfl k) ⟨_, rfl, by rw [Int16.toInt_toInt32]; exact Int16.toInt_ofInt_of_le (by omega) (by omega)⟩ h hs (hk2 e9.1 e9.2.1 e9.2.2)
  case lconst v =>
    have hn : n = 1 := Nat.eq_of_beq_eq_true (by simp only [chkI, Bool.and_eq_true] at hck; exact hck)
    subst hn
    have e9 : q.2.1 = pls ∧ q.2.2.2.1 = M ∧ q.2.2.2.2 = K := by
      have h9 := h
      simp only [stp, p1, p2, q2, pA, pAI, ld] at h9
      (repeat' split at h9) <;> first | (cases h9; done) | (cases h9; exact ⟨rfl, rfl, rfl⟩)
    have hv2 : (Int64.ofNat (v : Nat)).toInt = ((v : Nat) : Int) := lN_toInt (by have := v.2; omega)
    exact so_push (v := vL ((v : Nat) : Int)) (w := .long (Int64.ofNat (v : Nat))) (fun k => lv_lconst hx hb hdg rfl k) ⟨_, rfl, hv2⟩ h hs (hk2 e9.1 e9.2.1 e9.2.2)
  case ldc i =>
    have hn : n = 2 := Nat.eq_of_beq_eq_true (by simp only [chkI, Bool.and_eq_true] at hck; exact hck.1.1)
    subst hn
    have e9 : q.2.1 = pls ∧ q.2.2.2.1 = M ∧ q.2.2.2.2 = K := by
      have h9 := h
      simp only [stp, p1, p2, q2, pA, pAI, ld] at h9
      (repeat' split at h9) <;> first | (cases h9; done) | (cases h9; exact ⟨rfl, rfl, rfl⟩)
    have hr : -2147483648 ≤ z ∧ z < 2147483648 := by simp only [chkI, Bool.and_eq_true] at hck; exact of_decide_eq_true hck.1.2
    refine so_ldc hx hb hown hdg ?_ h hs (hk2 e9.1 e9.2.1 e9.2.2)
    by_cases hx0 : x = 0
    · refine Or.inl ⟨hx0, hr, hts _ (hl1 (by simp only [lkk, hx0]; rfl))⟩
    · have h9 : 2 ≤ y ∧ y < 27 := by
        simp only [chkI, Bool.and_eq_true, Bool.or_eq_true] at hck
        rcases hck.2 with h8 | h8
        · exact absurd (Nat.eq_of_beq_eq_true h8) hx0
        · exact ⟨Nat.le_of_ble_eq_true h8.1, Nat.le_of_ble_eq_true h8.2⟩
      refine Or.inr ⟨hx0, by omega, ?_⟩
      have h7 := hstr hx0 i rfl
      have h6 := hVK (y - 2) (by omega)
      rw [show y - 2 + 2 = y by omega, h7.1, h7.2] at h6
      exact ⟨_, h6⟩
  case ldc_w i =>
    have hn : n = 3 := Nat.eq_of_beq_eq_true (by simp only [chkI, Bool.and_eq_true] at hck; exact hck.1.1)
    subst hn
    have e9 : q.2.1 = pls ∧ q.2.2.2.1 = M ∧ q.2.2.2.2 = K := by
      have h9 := h
      simp only [stp, p1, p2, q2, pA, pAI, ld] at h9
      (repeat' split at h9) <;> first | (cases h9; done) | (cases h9; exact ⟨rfl, rfl, rfl⟩)
    have hr : -2147483648 ≤ z ∧ z < 2147483648 := by simp only [chkI, Bool.and_eq_true] at hck; exact of_decide_eq_true hck.1.2
    have hx0 : x = 0 := Nat.eq_of_beq_eq_true (by simp only [chkI, Bool.and_eq_true] at hck; exact hck.2)
    exact so_ldcw hx hb hown hdg ⟨hx0, hr, hts _ (hl1 rfl)⟩ h hs (hk2 e9.1 e9.2.1 e9.2.2)
  case ldc2_w i =>
    have hn : n = 3 := Nat.eq_of_beq_eq_true (by simp only [chkI, Bool.and_eq_true] at hck; exact hck.1)
    subst hn
    have e9 : q.2.1 = pls ∧ q.2.2.2.1 = M ∧ q.2.2.2.2 = K := by
      have h9 := h
      simp only [stp, p1, p2, q2, pA, pAI, ld] at h9
      (repeat' split at h9) <;> first | (cases h9; done) | (cases h9; exact ⟨rfl, rfl, rfl⟩)
    have hr : -2147483648 ≤ z ∧ z < 2147483648 := by simp only [chkI, Bool.and_eq_true] at hck; exact of_decide_eq_true hck.2
    exact so_ldc2 hx hb hown hdg ⟨hr, hts _ (hl1 rfl)⟩ h hs (hk2 e9.1 e9.2.1 e9.2.2)
  case iload_n i =>
    have hn : n = 1 := Nat.eq_of_beq_eq_true (by simp only [chkI, Bool.and_eq_true] at hck; exact hck)
    subst hn
    have e9 : q.2.1 = pls ∧ q.2.2.2.1 = M ∧ q.2.2.2.2 = K := by
      have h9 := h
      simp only [stp, p1, p2, q2, pA, pAI, ld] at h9
      (repeat' split at h9) <;> first | (cases h9; done) | (cases h9; exact ⟨rfl, rfl, rfl⟩)
    exact so_ldI (fun xv g k => lv_iload_n hx hb hdg rfl g k) h hl hs (hk2 e9.1 e9.2.1 e9.2.2)
  case iload i =>
    have hn : n = 2 := Nat.eq_of_beq_eq_true (by simp only [chkI, Bool.and_eq_true] at hck; exact hck)
    subst hn
    have e9 : q.2.1 = pls ∧ q.2.2.2.1 = M ∧ q.2.2.2.2 = K := by
      have h9 := h
      simp only [stp, p1, p2, q2, pA, pAI, ld] at h9
      (repeat' split at h9) <;> first | (cases h9; done) | (cases h9; exact ⟨rfl, rfl, rfl⟩)
    exact so_ldI (fun xv g k => lv_iload hx hb hdg g k) h hl hs (hk2 e9.1 e9.2.1 e9.2.2)
  case lload_n i =>
    have hn : n = 1 := Nat.eq_of_beq_eq_true (by simp only [chkI, Bool.and_eq_true] at hck; exact hck)
    subst hn
    have e9 : q.2.1 = pls ∧ q.2.2.2.1 = M ∧ q.2.2.2.2 = K := by
      have h9 := h
      simp only [stp, p1, p2, q2, pA, pAI, ld] at h9
      (repeat' split at h9) <;> first | (cases h9; done) | (cases h9; exact ⟨rfl, rfl, rfl⟩)
    exact so_ldL (fun xv g k => lv_lload_n hx hb hdg rfl g k) h hl hs (hk2 e9.1 e9.2.1 e9.2.2)
  case lload i =>
    have hn : n = 2 := Nat.eq_of_beq_eq_true (by simp only [chkI, Bool.and_eq_true] at hck; exact hck)
    subst hn
    have e9 : q.2.1 = pls ∧ q.2.2.2.1 = M ∧ q.2.2.2.2 = K := by
      have h9 := h
      simp only [stp, p1, p2, q2, pA, pAI, ld] at h9
      (repeat' split at h9) <;> first | (cases h9; done) | (cases h9; exact ⟨rfl, rfl, rfl⟩)
    exact so_ldL (fun xv g k => lv_lload hx hb hdg g k) h hl hs (hk2 e9.1 e9.2.1 e9.2.2)
  case aload_n i =>
    have hn : n = 1 := Nat.eq_of_beq_eq_true (by simp only [chkI, Bool.and_eq_true] at hck; exact hck)
    subst hn
    have e9 : q.2.1 = pls ∧ q.2.2.2.1 = M ∧ q.2.2.2.2 = K := by
      have h9 := h
      simp only [stp, p1, p2, q2, pA, pAI, ld] at h9
      (repeat' split at h9) <;> first | (cases h9; done) | (cases h9; exact ⟨rfl, rfl, rfl⟩)
    exact so_ldA (fun xv g k => lv_aload_n hx hb hdg rfl g k) h hl hs (hk2 e9.1 e9.2.1 e9.2.2)
  case aload i =>
    have hn : n = 2 := Nat.eq_of_beq_eq_true (by simp only [chkI, Bool.and_eq_true] at hck; exact hck)
    subst hn
    have e9 : q.2.1 = pls ∧ q.2.2.2.1 = M ∧ q.2.2.2.2 = K := by
      have h9 := h
      simp only [stp, p1, p2, q2, pA, pAI, ld] at h9
      (repeat' split at h9) <;> first | (cases h9; done) | (cases h9; exact ⟨rfl, rfl, rfl⟩)
    exact so_ldA (fun xv g k => lv_aload hx hb hdg g k) h hl hs (hk2 e9.1 e9.2.1 e9.2.2)
  case istore_n i =>
    have hn : n = 1 := Nat.eq_of_beq_eq_true (by simp only [chkI, Bool.and_eq_true] at hck; exact hck)
    subst hn
    have e9 : q.2.2.2.1 = M ∧ q.2.2.2.2 = K := by
      have h9 := h
      simp only [stp, sv] at h9
      (repeat' split at h9) <;> first | (cases h9; done) | (cases h9; exact ⟨rfl, rfl⟩)
    exact so_stI (fun xv r lv lv' g1 g2 g3 k => lv_istore_n hx hb hdg rfl g1 g2 g3 k) h hl hs (hk1 e9.1 e9.2)
  case istore i =>
    have hn : n = 2 := Nat.eq_of_beq_eq_true (by simp only [chkI, Bool.and_eq_true] at hck; exact hck)
    subst hn
    have e9 : q.2.2.2.1 = M ∧ q.2.2.2.2 = K := by
      have h9 := h
      simp only [stp, sv] at h9
      (repeat' split at h9) <;> first | (cases h9; done) | (cases h9; exact ⟨rfl, rfl⟩)
    exact so_stI (fun xv r lv lv' g1 g2 g3 k => lv_istore hx hb hdg g1 g2 g3 k) h hl hs (hk1 e9.1 e9.2)
  case astore_n i =>
    have hn : n = 1 := Nat.eq_of_beq_eq_true (by simp only [chkI, Bool.and_eq_true] at hck; exact hck)
    subst hn
    have e9 : q.2.2.2.1 = M ∧ q.2.2.2.2 = K := by
      have h9 := h
      simp only [stp, sv] at h9
      (repeat' split at h9) <;> first | (cases h9; done) | (cases h9; exact ⟨rfl, rfl⟩)
    exact so_stA (fun xv r lv lv' g1 g2 g3 k => lv_astore_n hx hb hdg rfl g1 g2 g3 k) h hl hs (hk1 e9.1 e9.2)
  case astore i =>
    have hn : n = 2 := Nat.eq_of_beq_eq_true (by simp only [chkI, Bool.and_eq_true] at hck; exact hck)
    subst hn
    have e9 : q.2.2.2.1 = M ∧ q.2.2.2.2 = K := by
      have h9 := h
      simp only [stp, sv] at h9
      (repeat' split at h9) <;> first | (cases h9; done) | (cases h9; exact ⟨rfl, rfl⟩)
    exact so_stA (fun xv r lv lv' g1 g2 g3 k => lv_astore hx hb hdg g1 g2 g3 k) h hl hs (hk1 e9.1 e9.2)
  case lstore_n i =>
    have hn : n = 1 := Nat.eq_of_beq_eq_true (by simp only [chkI, Bool.and_eq_true] at hck; exact hck)
    subst hn
    have e9 : q.2.2.2.1 = M ∧ q.2.2.2.2 = K := by
      have h9 := h
      simp only [stp, sv] at h9
      (repeat' split at h9) <;> first | (cases h9; done) | (cases h9; exact ⟨rfl, rfl⟩)
    exact so_stL (fun xv r lv lv' g1 g2 g3 k => lv_lstore_n hx hb hdg rfl g1 g2 g3 k) h hl hs (hk1 e9.1 e9.2)
  case lstore i =>
    have hn : n = 2 := Nat.eq_of_beq_eq_true (by simp only [chkI, Bool.and_eq_true] at hck; exact hck)
    subst hn
    have e9 : q.2.2.2.1 = M ∧ q.2.2.2.2 = K := by
      have h9 := h
      simp only [stp, sv] at h9
      (repeat' split at h9) <;> first | (cases h9; done) | (cases h9; exact ⟨rfl, rfl⟩)
    exact so_stL (fun xv r lv lv' g1 g2 g3 k => lv_lstore hx hb hdg g1 g2 g3 k) h hl hs (hk1 e9.1 e9.2)
  case iinc i k =>
    have hn : n = 3 := Nat.eq_of_beq_eq_true (by simp only [chkI, Bool.and_eq_true] at hck; exact hck.1)
    subst hn
    have e9 : q.2.2.2.1 = M ∧ q.2.2.2.2 = K := by
      have h9 := h
      simp only [stp] at h9
      split at h9
      · cases h9; exact ⟨rfl, rfl⟩
      · cases h9
    have hr : -32768 ≤ k ∧ k < 32768 := by simp only [chkI, Bool.and_eq_true] at hck; exact of_decide_eq_true hck.2
    exact so_iinc (fun a xv v lv lv' g1 g2 g3 g4 g5 k => lv_iinc hx hb hdg g1 g2 g3 g4 g5 k) hr h hl hs (hk1 e9.1 e9.2)
  case iadd =>
    have hn : n = 1 := Nat.eq_of_beq_eq_true (by simp only [chkI, Bool.and_eq_true] at hck; exact hck)
    subst hn
    have e9 : q.2.1 = pls ∧ q.2.2.2.1 = M ∧ q.2.2.2.2 = K := by
      have h9 := h
      simp only [stp, p1, p2, q2, pA, pAI, ld] at h9
      (repeat' split at h9) <;> first | (cases h9; done) | (cases h9; exact ⟨rfl, rfl, rfl⟩)
    exact so_bin (g := fun a b => a + b) (i32_add) (fun a b r k => lv_iadd hx hb hdg k) h hs (hk2 e9.1 e9.2.1 e9.2.2)
  case isub =>
    have hn : n = 1 := Nat.eq_of_beq_eq_true (by simp only [chkI, Bool.and_eq_true] at hck; exact hck)
    subst hn
    have e9 : q.2.1 = pls ∧ q.2.2.2.1 = M ∧ q.2.2.2.2 = K := by
      have h9 := h
      simp only [stp, p1, p2, q2, pA, pAI, ld] at h9
      (repeat' split at h9) <;> first | (cases h9; done) | (cases h9; exact ⟨rfl, rfl, rfl⟩)
    exact so_bin (g := fun a b => a - b) (i32_sub) (fun a b r k => lv_isub hx hb hdg k) h hs (hk2 e9.1 e9.2.1 e9.2.2)
  case imul =>
    have hn : n = 1 := Nat.eq_of_beq_eq_true (by simp only [chkI, Bool.and_eq_true] at hck; exact hck)
    subst hn
    have e9 : q.2.1 = pls ∧ q.2.2.2.1 = M ∧ q.2.2.2.2 = K := by
      have h9 := h
      simp only [stp, p1, p2, q2, pA, pAI, ld] at h9
      (repeat' split at h9) <;> first | (cases h9; done) | (cases h9; exact ⟨rfl, rfl, rfl⟩)
    exact so_bin (g := fun a b => a * b) (i32_mul) (fun a b r k => lv_imul hx hb hdg k) h hs (hk2 e9.1 e9.2.1 e9.2.2)
  case iand =>
    have hn : n = 1 := Nat.eq_of_beq_eq_true (by simp only [chkI, Bool.and_eq_true] at hck; exact hck)
    subst hn
    have e9 : q.2.1 = pls ∧ q.2.2.2.1 = M ∧ q.2.2.2.2 = K := by
      have h9 := h
      simp only [stp, p1, p2, q2, pA, pAI, ld] at h9
      (repeat' split at h9) <;> first | (cases h9; done) | (cases h9; exact ⟨rfl, rfl, rfl⟩)
    exact so_bin (g := fun a b => a &&& b) (fun a b => i32_b (fun a b => a &&& b) a b) (fun a b r k => lv_iand hx hb hdg k) h hs (hk2 e9.1 e9.2.1 e9.2.2)
  case ior =>
    have hn : n = 1 := Nat.eq_of_beq_eq_true (by simp only [chkI, Bool.and_eq_true] at hck; exact hck)
    subst hn
    have e9 : q.2.1 = pls ∧ q.2.2.2.1 = M ∧ q.2.2.2.2 = K := by
      have h9 := h
      simp only [stp, p1, p2, q2, pA, pAI, ld] at h9
      (repeat' split at h9) <;> first | (cases h9; done) | (cases h9; exact ⟨rfl, rfl, rfl⟩)
    exact so_bin (g := fun a b => a ||| b) (fun a b => i32_b (fun a b => a ||| b) a b) (fun a b r k => lv_ior hx hb hdg k) h hs (hk2 e9.1 e9.2.1 e9.2.2)
  case ixor =>
    have hn : n = 1 := Nat.eq_of_beq_eq_true (by simp only [chkI, Bool.and_eq_true] at hck; exact hck)
    subst hn
    have e9 : q.2.1 = pls ∧ q.2.2.2.1 = M ∧ q.2.2.2.2 = K := by
      have h9 := h
      simp only [stp, p1, p2, q2, pA, pAI, ld] at h9
      (repeat' split at h9) <;> first | (cases h9; done) | (cases h9; exact ⟨rfl, rfl, rfl⟩)
    exact so_bin (g := fun a b => a ^^^ b) (fun a b => i32_b (fun a b => a ^^^ b) a b) (fun a b r k => lv_ixor hx hb hdg k) h hs (hk2 e9.1 e9.2.1 e9.2.2)
  case ishl =>
    have hn : n = 1 := Nat.eq_of_beq_eq_true (by simp only [chkI, Bool.and_eq_true] at hck; exact hck)
    subst hn
    have e9 : q.2.1 = pls ∧ q.2.2.2.1 = M ∧ q.2.2.2.2 = K := by
      have h9 := h
      simp only [stp, p1, p2, q2, pA, pAI, ld] at h9
      (repeat' split at h9) <;> first | (cases h9; done) | (cases h9; exact ⟨rfl, rfl, rfl⟩)
    exact so_bin (g := fun a b => a <<< (b &&& 31)) (fun a b => i32_b (fun a b => a <<< (b &&& 31)) a b) (fun a b r k => lv_ishl hx hb hdg k) h hs (hk2 e9.1 e9.2.1 e9.2.2)
  case ishr =>
    have hn : n = 1 := Nat.eq_of_beq_eq_true (by simp only [chkI, Bool.and_eq_true] at hck; exact hck)
    subst hn
    have e9 : q.2.1 = pls ∧ q.2.2.2.1 = M ∧ q.2.2.2.2 = K := by
      have h9 := h
      simp only [stp, p1, p2, q2, pA, pAI, ld] at h9
      (repeat' split at h9) <;> first | (cases h9; done) | (cases h9; exact ⟨rfl, rfl, rfl⟩)
    exact so_bin (g := fun a b => a >>> (b &&& 31)) (fun a b => i32_b (fun a b => a >>> (b &&& 31)) a b) (fun a b r k => lv_ishr hx hb hdg k) h hs (hk2 e9.1 e9.2.1 e9.2.2)
  case iushr =>
    have hn : n = 1 := Nat.eq_of_beq_eq_true (by simp only [chkI, Bool.and_eq_true] at hck; exact hck)
    subst hn
    have e9 : q.2.1 = pls ∧ q.2.2.2.1 = M ∧ q.2.2.2.2 = K := by
      have h9 := h
      simp only [stp, p1, p2, q2, pA, pAI, ld] at h9
      (repeat' split at h9) <;> first | (cases h9; done) | (cases h9; exact ⟨rfl, rfl, rfl⟩)
    exact so_bin (g := fun a b => (a.toUInt32 >>> (b.toUInt32 &&& Int32.toUInt32 31)).toInt32) (fun a b => i32_b (fun a b => (a.toUInt32 >>> (b.toUInt32 &&& Int32.toUInt32 31)).toInt32) a b) (fun a b r k => lv_iushr hx hb hdg rfl k) h hs (hk2 e9.1 e9.2.1 e9.2.2)
  case idiv =>
    have hn : n = 1 := Nat.eq_of_beq_eq_true (by simp only [chkI, Bool.and_eq_true] at hck; exact hck)
    subst hn
    have e9 : q.2.1 = pls ∧ q.2.2.2.1 = M ∧ q.2.2.2.2 = K := by
      have h9 := h
      simp only [stp, p1, p2, q2, pA, pAI, ld] at h9
      (repeat' split at h9) <;> first | (cases h9; done) | (cases h9; exact ⟨rfl, rfl, rfl⟩)
    exact so_binz (g := fun a b => a / b) (fun a b => i32_div a b) (fun a b r hz k => lv_idiv hx hb hdg hz k) h hs (hk2 e9.1 e9.2.1 e9.2.2)
  case irem =>
    have hn : n = 1 := Nat.eq_of_beq_eq_true (by simp only [chkI, Bool.and_eq_true] at hck; exact hck)
    subst hn
    have e9 : q.2.1 = pls ∧ q.2.2.2.1 = M ∧ q.2.2.2.2 = K := by
      have h9 := h
      simp only [stp, p1, p2, q2, pA, pAI, ld] at h9
      (repeat' split at h9) <;> first | (cases h9; done) | (cases h9; exact ⟨rfl, rfl, rfl⟩)
    exact so_binz (g := fun a b => a - a / b * b) (gi := fun a b => a.tmod b) (fun a b => rem_toInt a b) (fun a b r hz k => lv_irem hx hb hdg hz k) h hs (hk2 e9.1 e9.2.1 e9.2.2)
  case ineg =>
    have hn : n = 1 := Nat.eq_of_beq_eq_true (by simp only [chkI, Bool.and_eq_true] at hck; exact hck)
    subst hn
    have e9 : q.2.1 = pls ∧ q.2.2.2.1 = M ∧ q.2.2.2.2 = K := by
      have h9 := h
      simp only [stp, p1, p2, q2, pA, pAI, ld] at h9
      (repeat' split at h9) <;> first | (cases h9; done) | (cases h9; exact ⟨rfl, rfl, rfl⟩)
    exact so_un (g := fun a => -a) (gi := fun a => w32 (-a)) (fun a => i32_neg a) (fun a r k => lv_ineg hx hb hdg k) h hs (hk2 e9.1 e9.2.1 e9.2.2)
  case i2c =>
    have hn : n = 1 := Nat.eq_of_beq_eq_true (by simp only [chkI, Bool.and_eq_true] at hck; exact hck)
    subst hn
    have e9 : q.2.1 = pls ∧ q.2.2.2.1 = M ∧ q.2.2.2.2 = K := by
      have h9 := h
      simp only [stp, p1, p2, q2, pA, pAI, ld] at h9
      (repeat' split at h9) <;> first | (cases h9; done) | (cases h9; exact ⟨rfl, rfl, rfl⟩)
    exact so_un (g := fun a => (a.toUInt32 % 65536).toInt32) (gi := ji2c) (fun a => by unfold ji2c; rw [Int32.ofInt_toInt]) (fun a r k => lv_i2c hx hb hdg rfl k) h hs (hk2 e9.1 e9.2.1 e9.2.2)
  case i2l =>
    have hn : n = 1 := Nat.eq_of_beq_eq_true (by simp only [chkI, Bool.and_eq_true] at hck; exact hck)
    subst hn
    have e9 : q.2.1 = pls ∧ q.2.2.2.1 = M ∧ q.2.2.2.2 = K := by
      have h9 := h
      simp only [stp, p1, p2, q2, pA, pAI, ld] at h9
      (repeat' split at h9) <;> first | (cases h9; done) | (cases h9; exact ⟨rfl, rfl, rfl⟩)
    exact so_i2l (fun a r k => lv_i2l hx hb hdg rfl k) h hs (hk2 e9.1 e9.2.1 e9.2.2)
  case ladd =>
    have hn : n = 1 := Nat.eq_of_beq_eq_true (by simp only [chkI, Bool.and_eq_true] at hck; exact hck)
    subst hn
    have e9 : q.2.1 = pls ∧ q.2.2.2.1 = M ∧ q.2.2.2.2 = K := by
      have h9 := h
      simp only [stp, p1, p2, q2, pA, pAI, ld] at h9
      (repeat' split at h9) <;> first | (cases h9; done) | (cases h9; exact ⟨rfl, rfl, rfl⟩)
    exact so_binl (g := fun a b => a + b) (fun a b => i64_add a b) (fun a b r k => lv_ladd hx hb hdg k) h hs (hk2 e9.1 e9.2.1 e9.2.2)
  case lmul =>
    have hn : n = 1 := Nat.eq_of_beq_eq_true (by simp only [chkI, Bool.and_eq_true] at hck; exact hck)
    subst hn
    have e9 : q.2.1 = pls ∧ q.2.2.2.1 = M ∧ q.2.2.2.2 = K := by
      have h9 := h
      simp only [stp, p1, p2, q2, pA, pAI, ld] at h9
      (repeat' split at h9) <;> first | (cases h9; done) | (cases h9; exact ⟨rfl, rfl, rfl⟩)
    exact so_binl (g := fun a b => a * b) (fun a b => i64_mul a b) (fun a b r k => lv_lmul hx hb hdg k) h hs (hk2 e9.1 e9.2.1 e9.2.2)
  case ldiv =>
    have hn : n = 1 := Nat.eq_of_beq_eq_true (by simp only [chkI, Bool.and_eq_true] at hck; exact hck)
    subst hn
    have e9 : q.2.1 = pls ∧ q.2.2.2.1 = M ∧ q.2.2.2.2 = K := by
      have h9 := h
      simp only [stp, p1, p2, q2, pA, pAI, ld] at h9
      (repeat' split at h9) <;> first | (cases h9; done) | (cases h9; exact ⟨rfl, rfl, rfl⟩)
    exact so_binlz (g := fun a b => a / b) (fun a b => i64_div a b) (fun a b r hz k => lv_ldiv hx hb hdg hz k) h hs (hk2 e9.1 e9.2.1 e9.2.2)
  case lrem =>
    have hn : n = 1 := Nat.eq_of_beq_eq_true (by simp only [chkI, Bool.and_eq_true] at hck; exact hck)
    subst hn
    have e9 : q.2.1 = pls ∧ q.2.2.2.1 = M ∧ q.2.2.2.2 = K := by
      have h9 := h
      simp only [stp, p1, p2, q2, pA, pAI, ld] at h9
      (repeat' split at h9) <;> first | (cases h9; done) | (cases h9; exact ⟨rfl, rfl, rfl⟩)
    exact so_binlz (g := fun a b => a - a / b * b) (gi := fun a b => a.tmod b) (fun a b => i64_rem a b) (fun a b r hz k => lv_lrem hx hb hdg hz k) h hs (hk2 e9.1 e9.2.1 e9.2.2)
  case lcmp =>
    have hn : n = 1 := Nat.eq_of_beq_eq_true (by simp only [chkI, Bool.and_eq_true] at hck; exact hck)
    subst hn
    have e9 : q.2.1 = pls ∧ q.2.2.2.1 = M ∧ q.2.2.2.2 = K := by
      have h9 := h
      simp only [stp, p1, p2, q2, pA, pAI, ld] at h9
      (repeat' split at h9) <;> first | (cases h9; done) | (cases h9; exact ⟨rfl, rfl, rfl⟩)
    exact so_cmp (fun a b r k => W.lcmp hx hb hdg k) h hs (hk2 e9.1 e9.2.1 e9.2.2)
  case lshl =>
    have hn : n = 1 := Nat.eq_of_beq_eq_true (by simp only [chkI, Bool.and_eq_true] at hck; exact hck)
    subst hn
    have e9 : q.2.1 = pls ∧ q.2.2.2.1 = M ∧ q.2.2.2.2 = K := by
      have h9 := h
      simp only [stp, p1, p2, q2, pA, pAI, ld] at h9
      (repeat' split at h9) <;> first | (cases h9; done) | (cases h9; exact ⟨rfl, rfl, rfl⟩)
    exact so_lshl (fun a b r k => lv_lshl hx hb hdg rfl k) h hs (hk2 e9.1 e9.2.1 e9.2.2)
  case dup =>
    have hn : n = 1 := Nat.eq_of_beq_eq_true (by simp only [chkI, Bool.and_eq_true] at hck; exact hck)
    subst hn
    have e9 : q.2.1 = pls ∧ q.2.2.2.1 = M ∧ q.2.2.2.2 = K := by
      have h9 := h
      simp only [stp, p1, p2, q2, pA, pAI, ld] at h9
      (repeat' split at h9) <;> first | (cases h9; done) | (cases h9; exact ⟨rfl, rfl, rfl⟩)
    exact so_dup (fun a r g k => lv_dup hx hb hdg g k) h hs (hk2 e9.1 e9.2.1 e9.2.2)
  case dup2 =>
    have hn : n = 1 := Nat.eq_of_beq_eq_true (by simp only [chkI, Bool.and_eq_true] at hck; exact hck)
    subst hn
    have e9 : q.2.1 = pls ∧ q.2.2.2.1 = M ∧ q.2.2.2.2 = K := by
      have h9 := h
      simp only [stp, p1, p2, q2, pA, pAI, ld] at h9
      (repeat' split at h9) <;> first | (cases h9; done) | (cases h9; exact ⟨rfl, rfl, rfl⟩)
    exact so_dup2 (fun a b r g g2 k => lv_dup2_11 hx hb hdg g g2 k) h hs (hk2 e9.1 e9.2.1 e9.2.2)
  case pop =>
    have hn : n = 1 := Nat.eq_of_beq_eq_true (by simp only [chkI, Bool.and_eq_true] at hck; exact hck)
    subst hn
    have e9 : q.2.1 = pls ∧ q.2.2.2.1 = M ∧ q.2.2.2.2 = K := by
      have h9 := h
      simp only [stp, p1, p2, q2, pA, pAI, ld] at h9
      (repeat' split at h9) <;> first | (cases h9; done) | (cases h9; exact ⟨rfl, rfl, rfl⟩)
    exact so_pop (fun a r g k => lv_pop hx hb hdg g k) h hs (hk2 e9.1 e9.2.1 e9.2.2)
  case ifCond cnd off =>
    have hn : n = 3 := Nat.eq_of_beq_eq_true (by simp only [chkI, Bool.and_eq_true] at hck; exact hck.1)
    subst hn
    have e9 : q.2.1 = pls ∧ q.2.2.2.1 = M ∧ q.2.2.2.2 = K := by
      have h9 := h
      simp only [stp, p1, p2, q2, pA, pAI, ld] at h9
      (repeat' split at h9) <;> first | (cases h9; done) | (cases h9; exact ⟨rfl, rfl, rfl⟩)
    have ht : (pc : Int) + off = (x : Int) := by simp only [chkI, Bool.and_eq_true] at hck; exact of_decide_eq_true hck.2
    exact so_if hx hb hdg ht h hs (hk2 e9.1 e9.2.1 e9.2.2)
  case if_icmp cnd off =>
    have hn : n = 3 := Nat.eq_of_beq_eq_true (by simp only [chkI, Bool.and_eq_true] at hck; exact hck.1)
    subst hn
    have e9 : q.2.1 = pls ∧ q.2.2.2.1 = M ∧ q.2.2.2.2 = K := by
      have h9 := h
      simp only [stp, p1, p2, q2, pA, pAI, ld] at h9
      (repeat' split at h9) <;> first | (cases h9; done) | (cases h9; exact ⟨rfl, rfl, rfl⟩)
    have ht : (pc : Int) + off = (x : Int) := by simp only [chkI, Bool.and_eq_true] at hck; exact of_decide_eq_true hck.2
    exact so_icmp hx hb hdg ht h hs (hk2 e9.1 e9.2.1 e9.2.2)
  case goto off =>
    have hn : n = 3 := Nat.eq_of_beq_eq_true (by simp only [chkI, Bool.and_eq_true] at hck; exact hck.1)
    subst hn
    have e9 : q.2.1 = pls ∧ q.2.2.2.1 = M ∧ q.2.2.2.2 = K := by
      have h9 := h
      simp only [stp, p1, p2, q2, pA, pAI, ld] at h9
      (repeat' split at h9) <;> first | (cases h9; done) | (cases h9; exact ⟨rfl, rfl, rfl⟩)
    have ht : (pc : Int) + off = (x : Int) := by simp only [chkI, Bool.and_eq_true] at hck; exact of_decide_eq_true hck.2
    simp only [stp] at h
    cases h
    exact lv_goto hx hb hdg ht ((hk2 e9.1 e9.2.1 e9.2.2) _ hs)
  case tableswitch d lo hi os =>
    have e9 : q.2.1 = pls ∧ q.2.2.2.1 = M ∧ q.2.2.2.2 = K := by
      have h9 := h
      simp only [stp, p1, p2, q2, pA, pAI, ld] at h9
      (repeat' split at h9) <;> first | (cases h9; done) | (cases h9; exact ⟨rfl, rfl, rfl⟩)
    simp only [chkI, Bool.and_eq_true] at hck
    exact so_tsw hx hb hdg (of_decide_eq_true hck.1.1) (of_decide_eq_true hck.1.2) (fun i o hi => by
      have h8 := List.all_eq_true.mp hck.2 o (by rw [← Array.getElem?_toList] at hi; exact List.mem_of_getElem? hi)
      exact of_decide_eq_true h8) h hs (hk2 e9.1 e9.2.1 e9.2.2)
  case getfield i =>
    have hn : n = 3 := Nat.eq_of_beq_eq_true (by simp only [chkI, Bool.and_eq_true] at hck; exact hck.1.1.1)
    subst hn
    have e9 : q.2.1 = pls ∧ q.2.2.2.1 = M ∧ q.2.2.2.2 = K := by
      have h9 := h
      simp only [stp, p1, p2, q2, pA, pAI, ld] at h9
      (repeat' split at h9) <;> first | (cases h9; done) | (cases h9; exact ⟨rfl, rfl, rfl⟩)
    simp only [chkI, Bool.and_eq_true] at hck
    have hx13 : x < 13 := Nat.le_of_ble_eq_true hck.1.1.2
    have hy : y < (clM x).2.2 := Nat.le_of_ble_eq_true hck.1.2
    have hz := zok_sp hck.2
    have hz2 : (z = 0 ∧ tyO x y = .int) ∨ (z = 1 ∧ tyO x y = .long) ∨ (z = 2 ∧ tyO x y ≠ .int ∧ tyO x y ≠ .long) := by
      rcases hz with h8 | h8 | ⟨h8, ⟨C, h7⟩ | ⟨t, h7⟩⟩
      · exact Or.inl h8
      · exact Or.inr (Or.inl h8)
      · exact Or.inr (Or.inr ⟨h8, by rw [h7]; exact fun h => (by cases h), by rw [h7]; exact fun h => (by cases h)⟩)
      · exact Or.inr (Or.inr ⟨h8, by rw [h7]; exact fun h => (by cases h), by rw [h7]; exact fun h => (by cases h)⟩)
    cases hns : nsF x0 x y
    · have hw : lkW x0 (.getfield i, 3, x, y, z) = .fieldLink (own x0) i ((clM x).2.1 y).1 ((clM x).2.1 y).2.1 ((clM x).2.1 y).2.2.1 := by simp only [lkW, hns]; rfl
      exact so_getI hx hb hts hown (clM_at hx13) hx13 (u_all x hx13) hy (Or.inl (by rw [← hw]; exact hts _ (hl1 (by simp only [lkk, hns]; rfl)))) hz2 hdg hR hK hP h hs (hk2 e9.1 e9.2.1 e9.2.2)
    · have hw : lkW x0 (.getfield i, 3, x, y, z) = .fieldLinkNest (own x0) i ((clM x).2.1 y).1 ((clM x).2.1 y).2.1 ((clM x).2.1 y).2.2.1 "LinenGuilt" := by simp only [lkW, hns]; rfl
      exact so_getI hx hb hts hown (clM_at hx13) hx13 (u_all x hx13) hy (Or.inr ⟨_, va_Nw.use rfl (by rw [← hw]; exact hnw _ (hl2 (by simp only [lkk, hns]; rfl)))⟩) hz2 hdg hR hK hP h hs (hk2 e9.1 e9.2.1 e9.2.2)
  case putfield i =>
    have hn : n = 3 := Nat.eq_of_beq_eq_true (by simp only [chkI, Bool.and_eq_true] at hck; exact hck.1.1.1.1)
    subst hn
    have e9 : q.2.1 = pls ∧ q.2.2.2.2 = K := by
      have h9 := h
      simp only [stp] at h9
      (repeat' split at h9) <;> first | (cases h9; done) | (cases h9; exact ⟨rfl, rfl⟩)
    simp only [chkI, Bool.and_eq_true] at hck
    have hx13 : x < 13 := Nat.le_of_ble_eq_true hck.1.1.1.2
    have hy : y < (clM x).2.2 := Nat.le_of_ble_eq_true hck.1.1.2
    have hz := zok_sp hck.1.2
    have hfin : ((clM x).2.1 y).2.2.2 = true → meth.name = "<init>" ∧ ((clM x).2.1 y).1 = own x0 := by
      intro hf
      have h8 := hck.2
      rw [hf] at h8
      simp only [Bool.not_true, Bool.false_or, Bool.and_eq_true] at h8
      refine ⟨hinit h8.1, ?_⟩
      rw [clM_dc hx13]
      have h7 : clT.getD x0 99 = x := Nat.eq_of_beq_eq_true h8.2
      have h6 := (fl_290 x0 hx290).2.2.2.2.2.2.1 (by rw [h7]; exact hck.1.1.1.2)
      rw [h6, h7]
    cases hns : nsF x0 x y
    · have hw : lkW x0 (.putfield i, 3, x, y, z) = .fieldLink (own x0) i ((clM x).2.1 y).1 ((clM x).2.1 y).2.1 ((clM x).2.1 y).2.2.1 := by simp only [lkW, hns]; rfl
      exact so_put hx hb hts hown (clM_at hx13) hx13 (u_all x hx13) hy (Or.inl (by rw [← hw]; exact hts _ (hl1 (by simp only [lkk, hns]; rfl)))) (clM_ty hx13) (clM_nm hx13) hfin hz hdg hR hK hP hD hS h hs (hk3 e9.1 e9.2)
    · have hw : lkW x0 (.putfield i, 3, x, y, z) = .fieldLinkNest (own x0) i ((clM x).2.1 y).1 ((clM x).2.1 y).2.1 ((clM x).2.1 y).2.2.1 "LinenGuilt" := by simp only [lkW, hns]; rfl
      have hfin2 : ((clM x).2.1 y).2.2.2 = false := by
        cases hf : ((clM x).2.1 y).2.2.2
        · rfl
        · exfalso
          have h8 := hck.2
          rw [hf] at h8
          simp only [Bool.not_true, Bool.false_or, Bool.and_eq_true] at h8
          simp only [nsF, h8.2, Bool.not_true, Bool.false_and] at hns
          cases hns
      exact so_put hx hb hts hown (clM_at hx13) hx13 (u_all x hx13) hy (Or.inr ⟨hfin2, _, va_Nw.use rfl (by rw [← hw]; exact hnw _ (hl2 (by simp only [lkk, hns]; rfl)))⟩) (clM_ty hx13) (clM_nm hx13) hfin hz hdg hR hK hP hD hS h hs (hk3 e9.1 e9.2)
  case iaload =>
    have hn : n = 1 := Nat.eq_of_beq_eq_true (by simp only [chkI, Bool.and_eq_true] at hck; exact hck.1)
    subst hn
    have e9 : q.2.1 = pls ∧ q.2.2.2.1 = M ∧ q.2.2.2.2 = K := by
      have h9 := h
      simp only [stp, p1, p2, q2, pA, pAI, ld] at h9
      (repeat' split at h9) <;> first | (cases h9; done) | (cases h9; exact ⟨rfl, rfl, rfl⟩)
    by_cases hx1 : x = 1
    · subst hx1
      have h8 : x0 = 288 := by
        simp only [chkI, Bool.and_eq_true] at hck
        exact Nat.eq_of_beq_eq_true hck.2
      obtain ⟨b, L, xs, s1, s2, s3, s4, s5, s6, s7⟩ := hSC h8
      exact so_scr hx hb hdg s1 s2 s3 s4 hS s6 s7 h hs (hk2 e9.1 e9.2.1 e9.2.2)
    · simp only [stp, if_neg hx1] at h
      exact so_iald hx hb hdg hR hK hP h hs (hk2 e9.1 e9.2.1 e9.2.2)
  case arraylength =>
    have hn : n = 1 := Nat.eq_of_beq_eq_true (by simp only [chkI, Bool.and_eq_true] at hck; exact hck.1)
    subst hn
    have e9 : q.2.1 = pls ∧ q.2.2.2.1 = M ∧ q.2.2.2.2 = K := by
      have h9 := h
      simp only [stp, p1, p2, q2, pA, pAI, ld] at h9
      (repeat' split at h9) <;> first | (cases h9; done) | (cases h9; exact ⟨rfl, rfl, rfl⟩)
    by_cases hx1 : x = 1
    · subst hx1
      have h8 : x0 = 288 := by
        simp only [chkI, Bool.and_eq_true] at hck
        exact Nat.eq_of_beq_eq_true hck.2
      obtain ⟨b, L, xs, s1, s2, s3, s4, s5, s6, s7⟩ := hSC h8
      exact so_sln hx hb hdg s1 s2 s3 s4 hS s6 s5 h hs (hk2 e9.1 e9.2.1 e9.2.2)
    · simp only [stp, if_neg hx1] at h
      exact so_alen hx hb hdg hR hK hP (fun a => by have := ln_le a; omega) h hs (hk2 e9.1 e9.2.1 e9.2.2)
  case caload =>
    have hn : n = 1 := Nat.eq_of_beq_eq_true (by simp only [chkI, Bool.and_eq_true] at hck; exact hck)
    subst hn
    have e9 : q.2.1 = pls ∧ q.2.2.2.1 = M ∧ q.2.2.2.2 = K := by
      have h9 := h
      simp only [stp, p1, p2, q2, pA, pAI, ld] at h9
      (repeat' split at h9) <;> first | (cases h9; done) | (cases h9; exact ⟨rfl, rfl, rfl⟩)
    exact so_cald hx hb hdg hR hK hP h hs (hk2 e9.1 e9.2.1 e9.2.2)
  case laload =>
    have hn : n = 1 := Nat.eq_of_beq_eq_true (by simp only [chkI, Bool.and_eq_true] at hck; exact hck)
    subst hn
    have e9 : q.2.1 = pls ∧ q.2.2.2.1 = M ∧ q.2.2.2.2 = K := by
      have h9 := h
      simp only [stp, p1, p2, q2, pA, pAI, ld] at h9
      (repeat' split at h9) <;> first | (cases h9; done) | (cases h9; exact ⟨rfl, rfl, rfl⟩)
    exact so_lald hx hb hdg hR hK hP h hs (hk2 e9.1 e9.2.1 e9.2.2)
  case aaload =>
    have hn : n = 1 := Nat.eq_of_beq_eq_true (by simp only [chkI, Bool.and_eq_true] at hck; exact hck)
    subst hn
    have e9 : q.2.1 = pls ∧ q.2.2.2.1 = M ∧ q.2.2.2.2 = K := by
      have h9 := h
      simp only [stp, p1, p2, q2, pA, pAI, ld] at h9
      (repeat' split at h9) <;> first | (cases h9; done) | (cases h9; exact ⟨rfl, rfl, rfl⟩)
    exact so_aald hx hb hdg hR hK hP h hs (hk2 e9.1 e9.2.1 e9.2.2)
  case iastore =>
    have hn : n = 1 := Nat.eq_of_beq_eq_true (by simp only [chkI, Bool.and_eq_true] at hck; exact hck)
    subst hn
    have e9 : q.2.1 = pls ∧ q.2.2.2.2 = K := by
      have h9 := h
      simp only [stp] at h9
      (repeat' split at h9) <;> first | (cases h9; done) | (cases h9; exact ⟨rfl, rfl⟩)
    exact so_iast hx hb hdg hR hK hP hD hS h hs (hk3 e9.1 e9.2)
  case castore =>
    have hn : n = 1 := Nat.eq_of_beq_eq_true (by simp only [chkI, Bool.and_eq_true] at hck; exact hck)
    subst hn
    have e9 : q.2.1 = pls ∧ q.2.2.2.2 = K := by
      have h9 := h
      simp only [stp] at h9
      (repeat' split at h9) <;> first | (cases h9; done) | (cases h9; exact ⟨rfl, rfl⟩)
    exact so_cast hx hb hdg hR hK hP hD hS h hs (hk3 e9.1 e9.2)
  case lastore =>
    have hn : n = 1 := Nat.eq_of_beq_eq_true (by simp only [chkI, Bool.and_eq_true] at hck; exact hck)
    subst hn
    have e9 : q.2.1 = pls ∧ q.2.2.2.2 = K := by
      have h9 := h
      simp only [stp] at h9
      (repeat' split at h9) <;> first | (cases h9; done) | (cases h9; exact ⟨rfl, rfl⟩)
    exact so_last hx hb hdg hR hK hP hD hS h hs (hk3 e9.1 e9.2)
  case aastore =>
    have hn : n = 1 := Nat.eq_of_beq_eq_true (by simp only [chkI, Bool.and_eq_true] at hck; exact hck)
    subst hn
    have e9 : q.2.1 = pls ∧ q.2.2.2.2 = K := by
      have h9 := h
      simp only [stp] at h9
      (repeat' split at h9) <;> first | (cases h9; done) | (cases h9; exact ⟨rfl, rfl⟩)
    exact so_aast hx hb hdg hR hK hP hD hS h hs (hk3 e9.1 e9.2)
  case new i =>
    have hn : n = 3 := Nat.eq_of_beq_eq_true (by simp only [chkI, Bool.and_eq_true] at hck; exact hck.1)
    subst hn
    have hx13 : x < 13 := by
      simp only [chkI, Bool.and_eq_true, Bool.or_eq_true] at hck
      rcases hck.2 with h8 | h8
      · exact Nat.le_of_ble_eq_true h8
      · exfalso
        have h7 := Nat.le_of_ble_eq_true h8.1
        simp only [knd] at hcall
        rw [if_neg (by omega)] at hcall
        cases hcall
    have e9 : q.2.1 = pls ∧ q.2.2.2.2 = (K.1 + 1, K.2.1 + 1, K.2.2 + fnT.getD x 0) := by
      have h9 := h
      simp only [stp] at h9
      split at h9
      · cases h9; exact ⟨rfl, rfl⟩
      · cases h9
    have hfn := fn_eq hx13 (clM_at hx13)
    rw [e9.2] at hcells hslots
    have hk9 := hk
    rw [e9.2, e9.1] at hk9
    simp only [Nat.add_sub_cancel_left] at hcells hslots hk9
    rw [hfn] at hslots hk9
    exact so_new hx hb hts hown (clM_at hx13) (u_all x hx13) (clM_ty hx13) (hts _ (hl1 (by simp only [lkk]; rw [if_pos (show Nat.blt x 900 = true from Nat.ble_eq_true_of_le (by omega))]))) (hts _ (ins_in x hx13)) (hts _ (ini_in x hx13)) hdg hR hK hP hD hS hA hcells hslots (fun k _ => clM_df hx13 k) h hs
      (fun ρ' ws' H' rest' g1 g2 g3 g4 g5 g6 => by rw [e9.2] at g1 g2 g6; exact hk9 ρ' tys ws' H' locs ls rest' g1 g2 hK g3 g4 g5 (hl.ext g1) g6)
  case newarray t =>
    have hn : n = 2 := Nat.eq_of_beq_eq_true (by simp only [chkI, Bool.and_eq_true] at hck; exact hck.1)
    subst hn
    have e9 : q.2.1 = pls ∧ q.2.2.2.2 = (K.1 + 1, K.2.1 + 1, K.2.2 + ln K.1) := by
      have h9 := h
      simp only [stp, p1] at h9
      (repeat' split at h9) <;> first | (cases h9; done) | (cases h9; exact ⟨rfl, rfl⟩)
    have hxt : (x = 20 ∧ t = .int) ∨ (x = 21 ∧ t = .char) ∨ (x = 22 ∧ t = .long) := by
      simp only [chkI, Bool.and_eq_true, Bool.or_eq_true, decide_eq_true_eq] at hck
      rcases hck.2 with (h8 | h8) | h8
      · exact Or.inl ⟨Nat.eq_of_beq_eq_true h8.1, h8.2⟩
      · exact Or.inr (Or.inl ⟨Nat.eq_of_beq_eq_true h8.1, h8.2⟩)
      · exact Or.inr (Or.inr ⟨Nat.eq_of_beq_eq_true h8.1, h8.2⟩)
    have harr : (Cond.arrayClass (newarray.typeOf t)).before args s = true := by
      rcases hxt with ⟨-, h8⟩ | ⟨-, h8⟩ | ⟨-, h8⟩ <;> rw [h8]
      · exact hts _ arI_in
      · exact hts _ arC_in
      · exact hts _ arL_in
    rw [e9.2] at hcells hslots
    have hk9 := hk
    rw [e9.2, e9.1] at hk9
    simp only [Nat.add_sub_cancel_left] at hcells hslots hk9
    exact so_newa hx hb harr hxt hdg hR hK hP hD hS hA hcells hslots h hs
      (fun ρ' tys' ws' H' rest' g1 g2 g2' g3 g4 g5 g6 => by rw [e9.2] at g1 g2 g6; exact hk9 ρ' tys' ws' H' locs ls rest' g1 g2 g2' g3 g4 g5 (hl.ext g1) g6)
  case anewarray i =>
    have hn : n = 3 := Nat.eq_of_beq_eq_true (by simp only [chkI, Bool.and_eq_true] at hck; exact hck.1)
    subst hn
    have e9 : q.2.1 = pls ∧ q.2.2.2.2 = (K.1 + 1, K.2.1 + 1, K.2.2 + ln K.1) := by
      have h9 := h
      simp only [stp, p1] at h9
      (repeat' split at h9) <;> first | (cases h9; done) | (cases h9; exact ⟨rfl, rfl⟩)
    rw [e9.2] at hcells hslots
    have hk9 := hk
    rw [e9.2, e9.1] at hk9
    simp only [Nat.add_sub_cancel_left] at hcells hslots hk9
    have hw := hts _ (hl1 rfl)
    simp only [chkI, Bool.and_eq_true, Bool.or_eq_true] at hck
    rcases hck.2 with h8 | h8
    · have h7 : x = 33 := Nat.eq_of_beq_eq_true h8
      subst h7
      exact so_newq (C := RX3) hx hb hown (by omega) rfl hw hAO.1 hdg hR hK hP hD hS hA hcells hslots h hs
        (fun ρ' tys' ws' H' rest' g1 g2 g2' g3 g4 g5 g6 => by rw [e9.2] at g1 g2 g6; exact hk9 ρ' tys' ws' H' locs ls rest' g1 g2 g2' g3 g4 g5 (hl.ext g1) g6)
    · have h7 : x = 36 := Nat.eq_of_beq_eq_true h8
      subst h7
      exact so_newq (C := RX6) hx hb hown (by omega) rfl hw hAO.2.1 hdg hR hK hP hD hS hA hcells hslots h hs
        (fun ρ' tys' ws' H' rest' g1 g2 g2' g3 g4 g5 g6 => by rw [e9.2] at g1 g2 g6; exact hk9 ρ' tys' ws' H' locs ls rest' g1 g2 g2' g3 g4 g5 (hl.ext g1) g6)
  case multianewarray i d =>
    have e9 : q.2.1 = pls ∧ q.2.2.2.2 = (K.1 + 1 + ln K.1, K.2.1 + (1 + ln K.1), K.2.2 + (ln K.1 + ln K.1 * ln (K.1 + 1))) := by
      have h9 := h
      simp only [stp, p2] at h9
      (repeat' split at h9) <;> first | (cases h9; done) | (cases h9; exact ⟨rfl, rfl⟩)
    rw [e9.2] at hcells hslots
    have hk9 := hk
    rw [e9.2, e9.1] at hk9
    simp only [Nat.add_sub_cancel_left] at hcells hslots hk9
    have hw := hts _ (hl1 rfl)
    simp only [chkI, Bool.and_eq_true] at hck
    have hn4 : n = 4 := Nat.eq_of_beq_eq_true hck.1.1
    have hd2 : d = 2 := Nat.eq_of_beq_eq_true hck.1.2
    have h7 : x = 40 := Nat.eq_of_beq_eq_true hck.2
    subst hn4
    subst hd2
    exact so_mna hx hb hown h7 hw hAO.2.2 (hts _ arI_in) hdg hR hK hP hD hS hA hcells hslots h hs
      (fun ρ' tys' ws' H' rest' g1 g2 g2' g3 g4 g5 g6 => by rw [e9.2] at g1 g2 g6; exact hk9 ρ' tys' ws' H' locs ls rest' g1 g2 g2' g3 g4 g5 (hl.ext g1) g6)
  case invokestatic i =>
    have hn : n = 3 := Nat.eq_of_beq_eq_true (by simp only [chkI, Bool.and_eq_true] at hck; exact hck.1)
    subst hn
    have hx4 : x = 1001 ∨ x = 1002 ∨ x = 1003 ∨ x = 1006 := by
      have h5 : ¬ x < 1000 := by
        simp only [knd] at hcall
        intro h9
        rw [if_pos h9] at hcall
        cases hcall
      simp only [chkI, Bool.and_eq_true, Bool.or_eq_true] at hck
      rcases hck.2 with (((h8 | h8) | h8) | h8) | h8
      · exact Or.inl (Nat.eq_of_beq_eq_true h8)
      · exact Or.inr (Or.inl (Nat.eq_of_beq_eq_true h8))
      · exact Or.inr (Or.inr (Or.inl (Nat.eq_of_beq_eq_true h8)))
      · exact Or.inr (Or.inr (Or.inr (Nat.eq_of_beq_eq_true h8)))
      · have h6 : x < 290 := Nat.le_of_ble_eq_true h8.1.1.1.1
        omega
    have hsz : c.maxLocals = ls.size := by rw [hml]; exact hl.sz.symm
    have hcell0 : cells ≤ R.cells := by omega
    have hslot0 : slots ≤ R.slots := by omega
    simp only [stp] at h
    rcases hx4 with rfl | rfl | rfl | rfl
    · have e9 : q.2.1 = pls ∧ q.2.2.2.1 = M ∧ q.2.2.2.2 = K := by
        have h9 := h
        simp only [xcall] at h9
        (repeat' split at h9) <;> first | (cases h9; done) | (cases h9; exact ⟨rfl, rfl, rfl⟩) | (exfalso; omega)
      have hw := hts _ (hl1 rfl)
      simp only [xcall] at h
      split at h <;> first | (exfalso; omega) | skip
      all_goals first | (cases h; done) | skip
      split at h
      case isFalse => cases h
      rename_i hr4
      obtain ⟨yv, r1, rfl, hy, hs1⟩ := hs.i
      obtain ⟨xv, r2, rfl, hxv, hs2⟩ := hs1.i
      have hcat := SR.cat hs2
      cases h
      refine va_mmin hx hb hsz hown hw (hts _ mmin_s) (hts _ mth_i) (hts _ mmin_c) hfr (by omega) hcell0 hslot0 hdg (hk2 rfl rfl rfl _ (SR.pi _ ?_ hs2))
      rw [← hxv, ← hy]
      simp only [Int32.lt_iff_toInt_lt]
      split <;> rfl
    · have e9 : q.2.1 = pls ∧ q.2.2.2.1 = M ∧ q.2.2.2.2 = K := by
        have h9 := h
        simp only [xcall] at h9
        (repeat' split at h9) <;> first | (cases h9; done) | (cases h9; exact ⟨rfl, rfl, rfl⟩) | (exfalso; omega)
      have hw := hts _ (hl1 rfl)
      simp only [xcall] at h
      split at h <;> first | (exfalso; omega) | skip
      all_goals first | (cases h; done) | skip
      split at h
      case isFalse => cases h
      rename_i hr4
      obtain ⟨yv, r1, rfl, hy, hs1⟩ := hs.i
      obtain ⟨xv, r2, rfl, hxv, hs2⟩ := hs1.i
      have hcat := SR.cat hs2
      cases h
      refine va_mmax hx hb hsz hown hw (hts _ mmax_s) (hts _ mth_i) (hts _ mmax_c) hfr (by omega) hcell0 hslot0 hdg (hk2 rfl rfl rfl _ (SR.pi _ ?_ hs2))
      rw [← hxv, ← hy]
      simp only [Int32.lt_iff_toInt_lt]
      split <;> rfl
    · have hw := hts _ (hl1 rfl)
      simp only [xcall] at h
      split at h <;> first | (exfalso; omega) | skip
      all_goals first | (cases h; done) | skip
      split at h
      case isFalse => cases h
      rename_i hr4
      obtain ⟨xv, r2, rfl, hxv, hs2⟩ := hs.i
      have hcat := SR.cat hs2
      cases h
      refine va_mabs hx hb hsz hown hw (hts _ mabs_s) (hts _ mth_i) (hts _ mabs_c) hfr (by omega) hcell0 hslot0 hdg (hk2 rfl rfl rfl _ (SR.pi _ ?_ hs2))
      rw [← hxv]
      simp only [Int32.le_iff_toInt_le, Int32.toInt_zero]
      split
      · rfl
      · rw [i32_sub, Int32.toInt_zero, Int.zero_sub]
    · have e9 : q.2.1 = pls ∧ q.2.2.2.2 = K := by
        have h9 := h
        simp only [xcall] at h9
        (repeat' split at h9) <;> first | (cases h9; done) | (cases h9; exact ⟨rfl, rfl⟩) | (exfalso; omega)
      have hw := hts _ (hl1 rfl)
      simp only [xcall] at h
      split at h <;> first | (exfalso; omega) | skip
      all_goals first | (cases h; done) | skip
      split at h
      case isFalse => cases h
      rename_i hO
      obtain ⟨o1, o2, o3, o4, o5, o6, o7, o8⟩ := hO
      obtain ⟨cv, r1, rfl, hc9, hs1⟩ := hs.i
      obtain ⟨dv, r2, rfl, hd9, hs2⟩ := hs1.i
      obtain ⟨r3, rfl, ha3, hs3⟩ := hs2.a
      obtain ⟨sv9, r4, rfl, hs9, hs4⟩ := hs3.i
      obtain ⟨r5, rfl, ha5, hs5⟩ := hs4.a
      obtain ⟨e0, e1, e2, e3, e4⟩ := hR.at o1
      obtain ⟨d0, d1, d2, d3, d4⟩ := hR.at o2
      obtain ⟨cA, f, t0, rfl, f2, f3⟩ := e2.i
      obtain ⟨cB, g, t1, rfl, g2, g3⟩ := d2.i
      have hcat := SR.cat hs5
      have n1 : ¬ sv9 < 0 := by rw [Int32.lt_iff_toInt_lt, Int32.toInt_zero]; omega
      have n2 : ¬ dv < 0 := by rw [Int32.lt_iff_toInt_lt, Int32.toInt_zero]; omega
      have n3 : ¬ cv < 0 := by rw [Int32.lt_iff_toInt_lt, Int32.toInt_zero]; omega
      have z1 : sv9.toNatClampNeg = sv9.toInt.toNat := rfl
      have z2 : dv.toNatClampNeg = dv.toInt.toNat := rfl
      have z3 : cv.toNatClampNeg = cv.toInt.toNat := rfl
      cases h
      refine va_copyi (ty := .int) hx hb hsz hown hw (hts _ cpy_n) (hts _ cpy_s) (hts _ sys_i) hK hP hD hS _ _ t0 t1 e1 d1 f2 g2 rfl n1 n2 n3 (by omega) (by omega) (fun _ _ => rfl) hfr (by rw [show nativeFrameWords "java/lang/System" "arraycopy" 5 = 7 by decide]; omega) hdg (fun H' locs' hP' hD' hS' => hk3 rfl rfl _ H' locs' _ (hR.put d3 d4 ?_ (fun b hb => by funext k'; simp [mcpy, hb])) hP' hD' hS' hs5)
      have h9 := o2
      unfold isO at h9
      simp only [Bool.and_eq_true] at h9
      rw [Nat.eq_of_beq_eq_true h9.2.2]
      refine Or.inr (Or.inl ⟨rfl, cB, _, t1, rfl, g2, fun j hj => ?_⟩)
      unfold va_cpy mcpy
      dsimp only
      by_cases hj2 : dv.toNatClampNeg ≤ j ∧ j < dv.toNatClampNeg + cv.toNatClampNeg
      · rw [if_pos hj2, if_pos ⟨rfl, by omega, by omega⟩, f3 _ (by omega)]
        congr 1
        omega
      · rw [if_neg hj2, if_neg (by omega)]
        exact g3 j hj
  case invokevirtual i =>
    have hn : n = 3 := Nat.eq_of_beq_eq_true (by simp only [chkI, Bool.and_eq_true] at hck; exact hck.1)
    subst hn
    have hx4 : x = 1004 ∨ x = 1005 := by
      have h5 : ¬ x < 1000 := by
        simp only [knd] at hcall
        intro h9
        rw [if_pos h9] at hcall
        cases hcall
      simp only [chkI, Bool.and_eq_true, Bool.or_eq_true] at hck
      rcases hck.2 with (h8 | h8) | h8
      · exact Or.inl (Nat.eq_of_beq_eq_true h8)
      · exact Or.inr (Nat.eq_of_beq_eq_true h8)
      · have h6 : x < 290 := Nat.le_of_ble_eq_true h8.1.1.1.1.1.1
        omega
    simp only [stp] at h
    rcases hx4 with rfl | rfl
    · simp only [xcall] at h
      split at h <;> first | (exfalso; omega) | skip
      all_goals first | (cases h; done) | skip
      split at h
      case isFalse => cases h
      rename_i hO
      obtain ⟨r1, rfl, ha, hs1⟩ := hs.a
      cases h
      exact h4 i _ _ _ hdg rfl hO.1 hO.2 hs1 (fun v hv => hk2 rfl rfl rfl _ (SR.pi _ hv hs1))
    · simp only [xcall] at h
      split at h <;> first | (exfalso; omega) | skip
      all_goals first | (cases h; done) | skip
      split at h
      case isFalse => cases h
      rename_i hO
      obtain ⟨iv, r0, rfl, hi, hs0⟩ := hs.i
      obtain ⟨r1, rfl, ha, hs1⟩ := hs0.a
      cases h
      exact h5 i _ iv _ _ hdg rfl hO.1 (by rw [hi]; exact hO.2.1) hO.2.2 hs1 (fun v hv => hk2 rfl rfl rfl _ (SR.pi _ (by rw [hv, hi]) hs1))
  case invokespecial i =>
    have hn : n = 3 := Nat.eq_of_beq_eq_true (by simp only [chkI, Bool.and_eq_true] at hck; exact hck.1)
    subst hn
    have hx4 : x = 1000 := by
      have h5 : ¬ x < 1000 := by
        simp only [knd] at hcall
        intro h9
        rw [if_pos h9] at hcall
        cases hcall
      simp only [chkI, Bool.and_eq_true, Bool.or_eq_true] at hck
      rcases hck.2 with h8 | h8
      · exact Nat.eq_of_beq_eq_true h8
      · have h6 : x < 290 := Nat.le_of_ble_eq_true h8.1.1.1.1.1.1.1
        omega
    have hsz : ls.size = c.maxLocals := by rw [hml]; exact hl.sz
    subst hx4
    have hw := hts _ (hl1 rfl)
    simp only [stp, xcall] at h
    split at h <;> first | (exfalso; omega) | skip
    all_goals first | (cases h; done) | skip
    split at h
    case isFalse => cases h
    rename_i hr4
    obtain ⟨r1, rfl, ha, hs1⟩ := hs.a
    have hcat := SR.cat hs1
    cases h
    exact W.objInit hx hb hown hw (hts _ obj_i) (hts _ obj_c) rfl hsz rfl hdg hfr (by show 2 * 0 + _ + 12 ≤ _; omega) (hk2 rfl rfl rfl _ hs1)
  all_goals (simp only [stp] at h; cases h)
end ST
