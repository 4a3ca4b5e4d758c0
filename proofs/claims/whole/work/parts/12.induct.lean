/-! every run of the pure machine is a run of the machine -/
theorem ns_false {x0 x : Nat} (h : nsM x0 x = true) : pmT.getD x false = true := by
  unfold nsM at h
  simp only [Bool.and_eq_true] at h
  exact h.2
theorem bx_in {x : Nat} (hx : x < 290) (hx2 : x ≠ 288) : ∀ w ∈ cdW x :: bx, w ∈ bx := fun w hw => (List.mem_cons.mp hw).elim (fun h => by rw [h]; exact List.mem_append_left _ ((fl_290 x hx).2.2.2.1 hx2 _ List.mem_cons_self)) (fun h => h)
theorem bx_good {x : Nat} (hx : x < 290) (hx2 : x ≠ 288) : GoodIn bx (cdW x :: bx) := fun w hw => ⟨bx_in hx hx2 w hw, bx_gd w (bx_in hx hx2 w hw)⟩
theorem mw_in {x : Nat} (hx : x < 290) (hx2 : x ≠ 288) : ∀ w ∈ mwL x, w ∈ bx := fun w hw => List.mem_append_left _ ((fl_290 x hx).2.2.2.1 hx2 _ (List.mem_cons_of_mem _ hw))
theorem ex_words : Cond.classLink RL 13 (excN 0) ∈ bx ∧ Cond.classLink RL 31 (excN 1) ∈ bx := ⟨List.mem_append_right _ (List.mem_append_left _ jw_32), List.mem_append_right _ (List.mem_append_left _ jw_33)⟩
theorem rcT_len : rcT.length = 290 := by decide +kernel
theorem rmx_l {d mc ms : Nat} : (rmx d mc ms).locals = 40 * d + 400 := rfl
theorem rmx_f {d mc ms : Nat} : (rmx d mc ms).frames = d + 8 := rfl
theorem rmx_ok {x d mc ms : Nat} {R : Room} (h : mxT.getD x 0 ≤ 20) (h1 : d + 1 + 8 ≤ R.frames) (h2 : 40 * (d + 1) + 400 ≤ R.locals) : (rmx d mc ms).frames + 1 ≤ R.frames ∧ 8 + (mxT.getD x 0 + 11) + (rmx d mc ms).locals ≤ R.locals := by
  rw [rmx_f, rmx_l]
  generalize mxT.getD x 0 = k at *
  omega
section IN
variable {p : Program} {l : Launch} {e : Env} {R : Room} {s : State} {mI : MethodId} {args : Array Value} {below : List Frame} {meth : Method} {c : Code} {H : Heap} {locs : List Loc} {cells slots : Nat} {Q : State → Prop}
variable {ls : Array Slot} {rest : List Value} {ρ : Nat → Nat} {D : va_G} {tys : List (ClassId × FieldType)} {ws : va_W} {A : Nat → Prop} {x0 x pc n idx d : Nat} {K K1 : KK} {M M1 : Mem} {st : List PV} {ar : List PV} {avs rs : List Value}
/-- a call that comes back -/
theorem cl_ret {v : Option PV} {mc1 ms1 : Nat} {g0 : List Value} {a : Array Value}
    (hr : va_Run p l e R s mI args below meth c H locs cells slots mc1 ms1 (F0 mI pc ls g0) rs (QcM v ρ K.1 D (va_A ws H.size) M1 K1.1 a) (va_A ws H.size)) (hD : va_D A ws) (hS : va_S A s.heap H locs) (hA : ∀ q, s.heap.size ≤ q → A q)
    (hk : ∀ (u : UU) (H1 : Heap) (locs1 : List Loc) (vv : List Value), Ext ρ K.1 u.1 K1.1 → RW u.1 u.2.1 M1 K1.1 u.2.2 → va_K D vwCl u.2.1 s → va_P D vwCl u.2.2 H1 → va_D A u.2.2 → va_S A s.heap H1 locs1 → SR u.1 K1.1 v.toList vv → W p l e R s mI args below meth c H1 locs1 (cells + mc1) (slots + ms1) Q (F0 mI (pc + 3) ls (vv ++ rs))) : W p l e R s mI args below meth c H locs cells slots Q (F0 mI pc ls g0) := by
  have hin := va_in hD hS hA
  have hB : ∀ (u : UU) (t : State) (H1 : Heap) (locs1 : List Loc) (vv : List Value), t.heap = H1 → s.vm.Alike t.vm → BW ρ K.1 D (va_A ws H.size) M1 K1.1 u t → va_S A s.heap H1 locs1 → SR u.1 K1.1 v.toList vv → W p l e R s mI args below meth c H1 locs1 (cells + mc1) (slots + ms1) Q (F0 mI (pc + 3) ls (vv ++ rs)) := by
    intro u t H1 locs1 vv ht hv hb hS1 hs
    obtain ⟨b1, b2, b3, b4, b5⟩ := hb
    exact hk u H1 locs1 vv b1 b2 (b4.moved hv.symm) (by rw [← ht]; exact b3) ⟨b5.1, fun k q hq => hin _ (b5.2 k q hq)⟩ hS1 hs
  match v, hr, hB with
  | none, hr, hB => exact va_callv (a := a) hr hS (fun q _ h => hin q h) hin (fun u t H1 locs1 ht hv _ hb _ _ hS1 => hB u t H1 locs1 [] ht hv hb hS1 trivial)
  | some (.inl i), hr, hB => exact va_calli (a := a) hr hS (fun q _ h => hin q h) hin (fun r u t H1 locs1 ht hv hp hb _ _ hS1 => hB u t H1 locs1 [.int r] ht hv hb hS1 ⟨⟨r, rfl, hp⟩, trivial⟩)
  | some (.inr (.inl i)), hr, hB => exact va_calll (a := a) hr hS (fun q _ h => hin q h) hin (fun r u t H1 locs1 ht hv hp hb _ _ hS1 => hB u t H1 locs1 [.long r] ht hv hb hS1 ⟨⟨r, rfl, hp⟩, trivial⟩)
  | some (.inr (.inr (.inl i))), hr, hB => exact va_callr (a := a) hr hS (fun q _ h => hin q h) hin (fun u ra t H1 locs1 ht hv _ hb _ _ hS1 => hB u t H1 locs1 [.ref ra] ht hv hb.1 hS1 ⟨⟨by rw [hb.2.1], hb.2.2⟩, trivial⟩)
  | some (.inr (.inr (.inr i))), hr, hB =>
    intro T hT X
    obtain ⟨v9, st₀, t, T', L, -, -, -, -, -, hf, -⟩ := hr T hT X
    exact hf.elim
/-- a call that throws -/
theorem cl_thr {e9 : Nat} {mc1 ms1 : Nat} {g0 : List Value} {a : Array Value}
    (hr : vx_Run p l e R s mI args below meth c H locs cells slots mc1 ms1 (F0 mI pc ls g0) rs (QcR (.inr e9) ρ K.1 D (va_A ws H.size) M1 K1.1 a) (XcR (.inr e9) ρ K.1 D (va_A ws H.size) M1 K1.1) (va_A ws H.size)) (hD : va_D A ws) (hS : va_S A s.heap H locs) (hA : ∀ q, s.heap.size ≤ q → A q)
    (hk : ∀ (u : UU) (H1 : Heap) (locs1 : List Loc) (q : Nat) (ce : Cell), Ext ρ K.1 u.1 K1.1 → RW u.1 u.2.1 M1 K1.1 u.2.2 → va_K D vwCl u.2.1 s → va_P D vwCl u.2.2 H1 → va_D A u.2.2 → va_S A s.heap H1 locs1 → H1[q]? = some ce → ce.vm = .none → s.vm.findClass (excN e9) = some ce.cls → vx_W p l e R s mI args below meth c H1 locs1 (cells + mc1) (slots + ms1) Q (F0 mI pc ls rs) q) : W p l e R s mI args below meth c H locs cells slots Q (F0 mI pc ls g0) := by
  have hin := va_in hD hS hA
  refine vx_calli (a := a) hr hS (fun q _ h => hin q h) hin (fun q _ h => hin q h) (fun E ce q9 u t H1 locs1 ht hv _ hb _ _ hS1 hce hcv hcl => ?_) (fun r u t H1 locs1 ht hv hp hb _ _ hS1 => hp.elim)
  obtain ⟨rfl, b1, b2, b3, b4, b5⟩ := hb
  exact hk u H1 locs1 q9 ce b1 b2 (b4.moved hv.symm) (by rw [← ht]; exact b3) ⟨b5.1, fun k q hq => hin _ (b5.2 k q hq)⟩ hS1 hce hcv hcl
/-- what a callee finds -/
theorem cl_pre (hG : GX ρ A s s.heap) (hK : va_K D vwCl tys s) (hP : va_P D vwCl ws H) (hD : va_D A ws) (hS : va_S A s.heap H locs) (hA : ∀ q, s.heap.size ≤ q → A q) {U : State} (hU : U.heap = H) (hW : s.WarmedH U.vm) : PcM ρ D tys ws H.size avs avs.toArray U :=
  ⟨rfl, by rw [hU], by rw [hU]; exact hP, hK.moved hW.alike, hD.weaken (fun _ _ _ _ => trivial), GX.call hG hS (va_in hD hS hA) hW hU⟩
end IN
theorem pm_hh (m : Nat) (h : m < 290) (hp : pmT.getD m false = true) : (hhM m).isEmpty = true := by
  have h1 : (List.range 290).all (fun m => !(pmT.getD m false) || (hhM m).isEmpty) = true := by decide +kernel
  have h2 := List.all_eq_true.mp h1 m (List.mem_range.mpr h)
  rw [hp] at h2
  simpa using h2
section IR
variable {p : Program} {l : Launch} {e : Env} {R : Room} {s : State} {mI : MethodId} {args : Array Value} {below : List Frame} {meth : Method} {c : Code} {H : Heap} {locs : List Loc} {cells slots : Nat}
variable {ls : Array Slot} {rest rs : List Value} {ρ : Nat → Nat} {D : va_G} {tys : List (ClassId × FieldType)} {ws : va_W} {A : Nat → Prop} {x0 x pc n idx d a mc1 ms1 : Nat} {K : KK} {M : Mem} {avs As : List Value} {Qc : Array Value → State → Outcome → State → Prop} {XC : String → State → State → Prop} {free : Addr → Prop}
theorem wsV_ok (hx290 : x < 290) (hx288 : x ≠ 288) (hrc : rcT.getD x 99 < 13) (hin : inT.getD x false = false) {i : Nat} (hl : Cond.methodLink (own x0) i (yM x) ∈ bw) : GoodIn bx (wsV (own x0) i (own x) (yM x) (cdW x :: bx)) := by
  have hrc2 : rcT.getD x 0 = rcT.getD x 99 := by
    have : x < rcT.length := by rw [rcT_len]; exact hx290
    rw [List.getD_eq_getElem?_getD, List.getD_eq_getElem?_getD, List.getElem?_eq_getElem this]
    rfl
  have hm : mwL x = [.instanceMethod (yM x), .selects (yM x).cls (yM x) (yM x), .initialized (yM x).cls] := by
    unfold mwL
    rw [if_neg, if_neg (by rw [hin]; decide)]
    intro h
    have := Nat.eq_of_beq_eq_true h
    omega
  have hmw := mw_in hx290 hx288
  rw [hm, (fl_290 x hx290).2.2.2.2.1] at hmw
  intro w hw
  have hb : w ∈ bx := by
    unfold wsV at hw
    rcases List.mem_append.mp hw with h | h
    · simp only [List.mem_cons, List.not_mem_nil, or_false] at h
      rcases h with rfl | rfl | rfl | rfl
      · exact List.mem_append_left _ hl
      · exact hmw _ (by simp)
      · exact hmw _ (by simp)
      · exact hmw _ (by simp)
    · exact bx_in hx290 hx288 w h
  exact ⟨hb, bx_gd w hb⟩
theorem run_V (hF : FCx p mI c s args meth x0) (hts : ∀ w ∈ bx, w.before args s = true) (hx290 : x < 290) (hx288 : x ≠ 288) (hrc : rcT.getD x 99 < 13) (hcl : rcT.getD x 99 = clT.getD x 99) (hin : inT.getD x false = false) (hhe : (hhM x).isEmpty = true) {i : Nat} (hl : Cond.methodLink (own x0) i (yM x) ∈ bw) (hdg : decode (byt x0) pc = .ok (.invokevirtual i, 3))
    (hM : Met l (yM x) (cdW x :: bx) (rmx d mc1 ms1) (PcM ρ D tys ws H.size (.ref (ρ a) :: As)) Qc mc1 ms1 free) (hO : isO K.1 a (rcT.getD x 99) = true) (hRW : RW ρ tys M K.1 ws) (hK : va_K D vwCl tys s) (hP : va_P D vwCl ws H) (hpre : ∀ U : State, U.heap = H → s.WarmedH U.vm → PcM ρ D tys ws H.size (.ref (ρ a) :: As) (Value.ref (ρ a) :: As).toArray U)
    (hn : As.length = npT.getD x 0) (hsz : ls.size = mxT.getD x0 0) (hcat : (rs.map fun v => v.category).sum ≤ 8) (hfr : d + 1 + 8 ≤ R.frames) (hlo : 40 * (d + 1) + 400 ≤ R.locals) (hf : cells + mc1 ≤ R.cells ∧ slots + ms1 ≤ R.slots) :
    va_Run p l e R s mI args below meth c H locs cells slots mc1 ms1 (F0 mI pc ls (As.reverse ++ .ref (ρ a) :: rs)) rs (Qc (Value.ref (ρ a) :: As).toArray) free := by
  obtain ⟨hx, hb, hml, hown, -, -, -⟩ := hF
  obtain ⟨-, -, -, fw, fc, fo, fcl, -⟩ := fl_290 x hx290
  obtain ⟨np1, np2⟩ := np_290 x hx290
  have hcn := cnL_ok _ fo
  have hmx := (mx_ok x hx290).1
  obtain ⟨e0, e1, e2, e3, e4⟩ := hRW.at hO
  obtain ⟨r', fs, f1, rfl, f3, f4⟩ := e2.o hrc
  have hr' : r'.1 = own x := by
    have h9 := clM_at hrc
    rw [f1] at h9
    rw [Option.some.inj h9, hcl]
    exact (fcl (by rw [← hcl]; exact Nat.ble_eq_true_of_le hrc)).symm
  refine va_runV (C := own x) (rest := rs) (b := ρ a) (As := As) ⟨hx, hb, hml, hown, hts⟩ hM (cwV (npT.getD x 0) hts (wsV_ok hx290 hx288 hrc hin hl) (by rw [cdW_e hhe]) rfl rfl ⟨fc, by rw [fc]; exact hcn.1, by rw [fc]; exact hcn.2.1, np1⟩ (rmx_ok hmx hfr hlo)) ⟨PcM.blind, ?_, hpre⟩ rfl hn hsz rfl (lv_room hcat) hdg hf
  have := va_recv hK hP f1 e1
  rwa [hr'] at this
theorem run_VX (hF : FCx p mI c s args meth x0) (hts : ∀ w ∈ bx, w.before args s = true) (hx290 : x < 290) (hx288 : x ≠ 288) (hrc : rcT.getD x 99 < 13) (hcl : rcT.getD x 99 = clT.getD x 99) (hin : inT.getD x false = false) (hhe : (hhM x).isEmpty = true) {i : Nat} (hl : Cond.methodLink (own x0) i (yM x) ∈ bw) (hdg : decode (byt x0) pc = .ok (.invokevirtual i, 3))
    (hM : vx_Met l (yM x) (cdW x :: bx) (rmx d mc1 ms1) (PcM ρ D tys ws H.size (.ref (ρ a) :: As)) Qc XC mc1 ms1 free) (hO : isO K.1 a (rcT.getD x 99) = true) (hRW : RW ρ tys M K.1 ws) (hK : va_K D vwCl tys s) (hP : va_P D vwCl ws H) (hpre : ∀ U : State, U.heap = H → s.WarmedH U.vm → PcM ρ D tys ws H.size (.ref (ρ a) :: As) (Value.ref (ρ a) :: As).toArray U)
    (hn : As.length = npT.getD x 0) (hsz : ls.size = mxT.getD x0 0) (hcat : (rs.map fun v => v.category).sum ≤ 8) (hfr : d + 1 + 8 ≤ R.frames) (hlo : 40 * (d + 1) + 400 ≤ R.locals) (hf : cells + mc1 ≤ R.cells ∧ slots + ms1 ≤ R.slots) :
    vx_Run p l e R s mI args below meth c H locs cells slots mc1 ms1 (F0 mI pc ls (As.reverse ++ .ref (ρ a) :: rs)) rs (Qc (Value.ref (ρ a) :: As).toArray) XC free := by
  obtain ⟨hx, hb, hml, hown, -, -, -⟩ := hF
  obtain ⟨-, -, -, fw, fc, fo, fcl, -⟩ := fl_290 x hx290
  obtain ⟨np1, np2⟩ := np_290 x hx290
  have hcn := cnL_ok _ fo
  have hmx := (mx_ok x hx290).1
  obtain ⟨e0, e1, e2, e3, e4⟩ := hRW.at hO
  obtain ⟨r', fs, f1, rfl, f3, f4⟩ := e2.o hrc
  have hr' : r'.1 = own x := by
    have h9 := clM_at hrc
    rw [f1] at h9
    rw [Option.some.inj h9, hcl]
    exact (fcl (by rw [← hcl]; exact Nat.ble_eq_true_of_le hrc)).symm
  refine vx_runV (C := own x) (rest := rs) (b := ρ a) (As := As) ⟨hx, hb, hml, hown, hts⟩ hM (cwV (npT.getD x 0) hts (wsV_ok hx290 hx288 hrc hin hl) (by rw [cdW_e hhe]) rfl rfl ⟨fc, by rw [fc]; exact hcn.1, by rw [fc]; exact hcn.2.1, np1⟩ (rmx_ok hmx hfr hlo)) ⟨PcM.blind, ?_, hpre⟩ rfl hn hsz rfl (lv_room hcat) hdg hf
  have := va_recv hK hP f1 e1
  rwa [hr'] at this
theorem run_I (hF : FCx p mI c s args meth x0) (hts : ∀ w ∈ bx, w.before args s = true) (hx290 : x < 290) (hx288 : x ≠ 288) (hrc : rcT.getD x 99 < 13) (hin : inT.getD x false = true) (hhe : (hhM x).isEmpty = true) {i : Nat} (hl : Cond.methodLink (own x0) i (yM x) ∈ bw ∨ va_Nw (.methodLinkNest (own x0) i (yM x) "LinenGuilt") s) (hdg : decode (byt x0) pc = .ok (.invokespecial i, 3))
    (hM : Met l (yM x) (cdW x :: bx) (rmx d mc1 ms1) (PcM ρ D tys ws H.size (.ref (ρ a) :: As)) Qc mc1 ms1 free) (hpre : ∀ U : State, U.heap = H → s.WarmedH U.vm → PcM ρ D tys ws H.size (.ref (ρ a) :: As) (Value.ref (ρ a) :: As).toArray U)
    (hn : As.length = npT.getD x 0) (hsz : ls.size = mxT.getD x0 0) (hcat : (rs.map fun v => v.category).sum ≤ 8) (hfr : d + 1 + 8 ≤ R.frames) (hlo : 40 * (d + 1) + 400 ≤ R.locals) (hf : cells + mc1 ≤ R.cells ∧ slots + ms1 ≤ R.slots) :
    va_Run p l e R s mI args below meth c H locs cells slots mc1 ms1 (F0 mI pc ls (As.reverse ++ .ref (ρ a) :: rs)) rs (Qc (Value.ref (ρ a) :: As).toArray) free := by
  obtain ⟨hx, hb, hml, hown, -, -, -⟩ := hF
  obtain ⟨-, -, -, fw, fc, fo, fcl, -⟩ := fl_290 x hx290
  obtain ⟨np1, np2⟩ := np_290 x hx290
  have hcn := cnL_ok _ fo
  have hmx := (mx_ok x hx290).1
  have hrc2 : rcT.getD x 0 = rcT.getD x 99 := by
    have : x < rcT.length := by rw [rcT_len]; exact hx290
    rw [List.getD_eq_getElem?_getD, List.getD_eq_getElem?_getD, List.getElem?_eq_getElem this]
    rfl
  have hm : mwL x = [.instanceMethod (yM x), .initialized (yM x).cls] := by
    unfold mwL
    rw [if_neg, if_pos hin]
    intro h
    have := Nat.eq_of_beq_eq_true h
    omega
  have hmw := mw_in hx290 hx288
  rw [hm] at hmw
  have w1 := hts _ (hmw (.instanceMethod (yM x)) (by simp))
  have w2 := hts _ (hmw (.initialized (yM x).cls) (by simp))
  have hcd : cdW x :: bx = .code (yM x) (byt x) (mxT.getD x 0) none :: bx := by rw [cdW_e hhe, (np2 hin).2]
  rcases hl with hl | hl
  · exact va_runI (rest := rs) (b := ρ a) (As := As) ⟨hx, hb, hml, hown, hts⟩ hM (cwI (npT.getD x 0) hts (bx_good hx290 hx288) hcd rfl rfl w2 (hts _ (List.mem_append_left _ hl)) w1 (np2 hin).1 ⟨by rw [fc]; exact hcn.1, by rw [fc]; exact hcn.2.1, np1⟩ (rmx_ok hmx hfr hlo)) ⟨PcM.blind, hpre⟩ rfl hn hsz rfl (lv_room hcat) hdg hf
  · exact va_runIN (rest := rs) (b := ρ a) (As := As) ⟨hx, hb, hml, hown, hts⟩ hM ⟨va_cnB (npT.getD x 0) hts (bx_good hx290 hx288) hcd rfl rfl hl w2 ⟨by rw [fc]; exact hcn.1, by rw [fc]; exact hcn.2.1, np1⟩ (rmx_ok hmx hfr hlo), (np2 hin).1, w1⟩ ⟨PcM.blind, hpre⟩ rfl hn hsz rfl (lv_room hcat) hdg hf
theorem run_S (hF : FCx p mI c s args meth x0) (hts : ∀ w ∈ bx, w.before args s = true) (hx290 : x < 290) (hx288 : x ≠ 288) (hrc : rcT.getD x 0 = 99) {i : Nat} (hl : Cond.methodLink (own x0) i (yM x) ∈ bw ∨ (va_Nw (.methodLinkNest (own x0) i (yM x) "LinenGuilt") s ∧ (hhM x).isEmpty = true)) (hdg : decode (byt x0) pc = .ok (.invokestatic i, 3))
    (hM : Met l (yM x) (cdW x :: bx) (rmx d mc1 ms1) (PcM ρ D tys ws H.size As) Qc mc1 ms1 free) (hpre : ∀ U : State, U.heap = H → s.WarmedH U.vm → PcM ρ D tys ws H.size As As.toArray U)
    (hn : As.length = npT.getD x 0) (hsz : ls.size = mxT.getD x0 0) (hcat : (rs.map fun v => v.category).sum ≤ 8) (hfr : d + 1 + 8 ≤ R.frames) (hlo : 40 * (d + 1) + 400 ≤ R.locals) (hf : cells + mc1 ≤ R.cells ∧ slots + ms1 ≤ R.slots) :
    va_Run p l e R s mI args below meth c H locs cells slots mc1 ms1 (F0 mI pc ls (As.reverse ++ rs)) rs (Qc As.toArray) free := by
  obtain ⟨hx, hb, hml, hown, -, -, -⟩ := hF
  obtain ⟨-, -, -, fw, fc, fo, fcl, -⟩ := fl_290 x hx290
  obtain ⟨np1, np2⟩ := np_290 x hx290
  have hcn := cnL_ok _ fo
  have hmx := (mx_ok x hx290).1
  have hm : mwL x = [.static (yM x), .initialized (yM x).cls] := by
    unfold mwL
    rw [if_pos (by rw [hrc]; rfl)]
  have hmw := mw_in hx290 hx288
  rw [hm] at hmw
  have w1 := hts _ (hmw (.static (yM x)) (by simp))
  have w2 := hts _ (hmw (.initialized (yM x).cls) (by simp))
  have hg : ∀ {i : Nat}, Cond.methodLink (own x0) i (yM x) ∈ bw → GoodIn bx (va_wsS (own x0) i (yM x) (cdW x :: bx)) := by
    intro i hl w hw
    have hb : w ∈ bx := by
      unfold va_wsS at hw
      rcases List.mem_append.mp hw with h | h
      · simp only [List.mem_cons, List.not_mem_nil, or_false] at h
        rcases h with rfl | rfl | rfl
        · exact List.mem_append_left _ hl
        · exact hmw _ (by simp)
        · exact hmw _ (by simp)
      · exact bx_in hx290 hx288 w h
    exact ⟨hb, bx_gd w hb⟩
  rcases hl with hl | ⟨hl, hhe⟩
  · cases hhe : (hhM x).isEmpty
    · exact vx_runSW (rest := rs) (As := As) ⟨hx, hb, hml, hown, hts⟩ hM (vx_cwSW (npT.getD x 0) hts (hg hl) (by rw [cdW_n hhe]) rfl rfl ⟨by rw [fc]; exact hcn.1, by rw [fc]; exact hcn.2.1, np1⟩ (rmx_ok hmx hfr hlo)) ⟨PcM.blind, hpre⟩ rfl hn hsz rfl (lv_room hcat) hdg hf
    · exact va_runS (rest := rs) (As := As) ⟨hx, hb, hml, hown, hts⟩ hM (va_cwS (npT.getD x 0) hts (hg hl) (by rw [cdW_e hhe]) rfl rfl ⟨by rw [fc]; exact hcn.1, by rw [fc]; exact hcn.2.1, np1⟩ (rmx_ok hmx hfr hlo)) ⟨PcM.blind, hpre⟩ rfl hn hsz rfl (lv_room hcat) hdg hf
  · exact va_runSN (rest := rs) (As := As) ⟨hx, hb, hml, hown, hts⟩ hM ⟨va_cnB (npT.getD x 0) hts (bx_good hx290 hx288) (by rw [cdW_e hhe]) rfl rfl hl w2 ⟨by rw [fc]; exact hcn.1, by rw [fc]; exact hcn.2.1, np1⟩ (rmx_ok hmx hfr hlo), w1, trivial⟩ ⟨PcM.blind, hpre⟩ rfl hn hsz rfl (lv_room hcat) hdg hf
end IR
